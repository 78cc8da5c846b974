theorem dX7_machine_36 : decode cX7_machine 36 = .ok (.aload_n 0, 1) := by decide +kernel
theorem dX7_machine_37 : decode cX7_machine 37 = .ok (.getfield 62, 3) := by decide +kernel
theorem dX7_machine_40 : decode cX7_machine 40 = .ok (.iload_n 1, 1) := by decide +kernel
theorem dX7_machine_41 : decode cX7_machine 41 = .ok (.iconst (-1), 1) := by decide +kernel
theorem dX7_machine_42 : decode cX7_machine 42 = .ok (.iastore, 1) := by decide +kernel
theorem dX7_machine_43 : decode cX7_machine 43 = .ok (.aload_n 0, 1) := by decide +kernel
theorem dX7_machine_44 : decode cX7_machine 44 = .ok (.iload_n 1, 1) := by decide +kernel
theorem dX7_machine_45 : decode cX7_machine 45 = .ok (.aload_n 0, 1) := by decide +kernel
theorem dX7_machine_46 : decode cX7_machine 46 = .ok (.getfield 131, 3) := by decide +kernel
theorem dX7_machine_49 : decode cX7_machine 49 = .ok (.invokevirtual 134, 3) := by decide +kernel
theorem dX7_machine_52 : decode cX7_machine 52 = .ok (.iload_n 1, 1) := by decide +kernel
theorem dX7_machine_53 : decode cX7_machine 53 = .ok (.ireturn, 1) := by decide +kernel
set_option maxRecDepth 20000 in
theorem ggX7_hears_X7_isMachine : GoodIn wsX7_hears wsX7_isMachine := goodIn_r _ [6, 7, 8, 9, 5, 10, 11, 12, 13, 14, 15, 16, 17, 18, 19, 20, 21, 22, 23, 24, 25, 26, 27, 28, 29, 30, 31, 32, 33, 34, 35, 36, 37, 38, 39, 40, 41, 42, 43, 44, 45, 46, 47, 48, 49, 50, 51] (by decide +kernel) (by decide +kernel)
set_option maxRecDepth 20000 in
theorem gX7_hears_X7_isMachine : GoodIn wsX7_hears (wsV RX7 138 RX7 yX7_isMachine wsX7_isMachine) := goodIn_app (goodIn_of _ (by decide +kernel)) ggX7_hears_X7_isMachine
set_option maxRecDepth 20000 in
theorem ggX7_hears_X7_isIn : GoodIn wsX7_hears wsX7_isIn := goodIn_r _ [10] (by decide +kernel) (by decide +kernel)
set_option maxRecDepth 20000 in
theorem gX7_hears_X7_isIn : GoodIn wsX7_hears (va_wsS RX7 122 yX7_isIn wsX7_isIn) := goodIn_app (goodIn_of _ (by decide +kernel)) ggX7_hears_X7_isIn
theorem dX7_hears_0 : decode cX7_hears 0 = .ok (.aload_n 0, 1) := by decide +kernel
theorem dX7_hears_1 : decode cX7_hears 1 = .ok (.iload_n 1, 1) := by decide +kernel
theorem dX7_hears_2 : decode cX7_hears 2 = .ok (.invokevirtual 138, 3) := by decide +kernel
theorem dX7_hears_5 : decode cX7_hears 5 = .ok (.ifCond .eq 26, 3) := by decide +kernel
theorem dX7_hears_8 : decode cX7_hears 8 = .ok (.aload_n 0, 1) := by decide +kernel
theorem dX7_hears_9 : decode cX7_hears 9 = .ok (.iload_n 2, 1) := by decide +kernel
theorem dX7_hears_10 : decode cX7_hears 10 = .ok (.invokevirtual 138, 3) := by decide +kernel
theorem dX7_hears_13 : decode cX7_hears 13 = .ok (.ifCond .eq 18, 3) := by decide +kernel
theorem dX7_hears_16 : decode cX7_hears 16 = .ok (.iload_n 1, 1) := by decide +kernel
theorem dX7_hears_17 : decode cX7_hears 17 = .ok (.iload_n 2, 1) := by decide +kernel
theorem dX7_hears_18 : decode cX7_hears 18 = .ok (.if_icmp .eq 13, 3) := by decide +kernel
theorem dX7_hears_21 : decode cX7_hears 21 = .ok (.iload_n 3, 1) := by decide +kernel
theorem dX7_hears_22 : decode cX7_hears 22 = .ok (.iconst (-1), 1) := by decide +kernel
theorem dX7_hears_23 : decode cX7_hears 23 = .ok (.bipush 100, 2) := by decide +kernel
theorem dX7_hears_25 : decode cX7_hears 25 = .ok (.invokestatic 122, 3) := by decide +kernel
theorem dX7_hears_28 : decode cX7_hears 28 = .ok (.ifCond .ne 5, 3) := by decide +kernel
theorem dX7_hears_31 : decode cX7_hears 31 = .ok (.iconst 0, 1) := by decide +kernel
theorem dX7_hears_32 : decode cX7_hears 32 = .ok (.ireturn, 1) := by decide +kernel
theorem dX7_hears_33 : decode cX7_hears 33 = .ok (.aload_n 0, 1) := by decide +kernel
theorem dX7_hears_34 : decode cX7_hears 34 = .ok (.getfield 29, 3) := by decide +kernel
theorem dX7_hears_37 : decode cX7_hears 37 = .ok (.bipush 12, 2) := by decide +kernel
theorem dX7_hears_39 : decode cX7_hears 39 = .ok (.iload_n 1, 1) := by decide +kernel
theorem dX7_hears_40 : decode cX7_hears 40 = .ok (.imul, 1) := by decide +kernel
theorem dX7_hears_41 : decode cX7_hears 41 = .ok (.iload_n 2, 1) := by decide +kernel
theorem dX7_hears_42 : decode cX7_hears 42 = .ok (.iadd, 1) := by decide +kernel
theorem dX7_hears_43 : decode cX7_hears 43 = .ok (.iload_n 3, 1) := by decide +kernel
theorem dX7_hears_44 : decode cX7_hears 44 = .ok (.iastore, 1) := by decide +kernel
theorem dX7_hears_45 : decode cX7_hears 45 = .ok (.iconst 1, 1) := by decide +kernel
theorem dX7_hears_46 : decode cX7_hears 46 = .ok (.ireturn, 1) := by decide +kernel
theorem dX7_piece_0 : decode cX7_piece 0 = .ok (.aload_n 0, 1) := by decide +kernel
theorem dX7_piece_1 : decode cX7_piece 1 = .ok (.getfield 142, 3) := by decide +kernel
theorem dX7_piece_4 : decode cX7_piece 4 = .ok (.bipush 12, 2) := by decide +kernel
theorem dX7_piece_6 : decode cX7_piece 6 = .ok (.if_icmp .ne 5, 3) := by decide +kernel
theorem dX7_piece_9 : decode cX7_piece 9 = .ok (.iconst (-1), 1) := by decide +kernel
theorem dX7_piece_10 : decode cX7_piece 10 = .ok (.ireturn, 1) := by decide +kernel
theorem dX7_piece_11 : decode cX7_piece 11 = .ok (.aload_n 0, 1) := by decide +kernel
theorem dX7_piece_12 : decode cX7_piece 12 = .ok (.getfield 25, 3) := by decide +kernel
theorem dX7_piece_15 : decode cX7_piece 15 = .ok (.aload_n 0, 1) := by decide +kernel
theorem dX7_piece_16 : decode cX7_piece 16 = .ok (.getfield 142, 3) := by decide +kernel
theorem dX7_piece_19 : decode cX7_piece 19 = .ok (.iload_n 1, 1) := by decide +kernel
theorem dX7_piece_20 : decode cX7_piece 20 = .ok (.iastore, 1) := by decide +kernel
theorem dX7_piece_21 : decode cX7_piece 21 = .ok (.aload_n 0, 1) := by decide +kernel
theorem dX7_piece_22 : decode cX7_piece 22 = .ok (.dup, 1) := by decide +kernel
theorem dX7_piece_23 : decode cX7_piece 23 = .ok (.getfield 142, 3) := by decide +kernel
theorem dX7_piece_26 : decode cX7_piece 26 = .ok (.iconst 1, 1) := by decide +kernel
theorem dX7_piece_27 : decode cX7_piece 27 = .ok (.iadd, 1) := by decide +kernel
theorem dX7_piece_28 : decode cX7_piece 28 = .ok (.putfield 142, 3) := by decide +kernel
theorem dX7_piece_31 : decode cX7_piece 31 = .ok (.aload_n 0, 1) := by decide +kernel
theorem dX7_piece_32 : decode cX7_piece 32 = .ok (.getfield 142, 3) := by decide +kernel
theorem dX7_piece_35 : decode cX7_piece 35 = .ok (.ireturn, 1) := by decide +kernel
theorem dX7_rank_0 : decode cX7_rank 0 = .ok (.iconst 0, 1) := by decide +kernel
theorem dX7_rank_1 : decode cX7_rank 1 = .ok (.istore_n 2, 1) := by decide +kernel
theorem dX7_rank_2 : decode cX7_rank 2 = .ok (.iconst 0, 1) := by decide +kernel
theorem dX7_rank_3 : decode cX7_rank 3 = .ok (.istore_n 3, 1) := by decide +kernel
theorem dX7_rank_4 : decode cX7_rank 4 = .ok (.iload_n 3, 1) := by decide +kernel
theorem dX7_rank_5 : decode cX7_rank 5 = .ok (.bipush 12, 2) := by decide +kernel
theorem dX7_rank_7 : decode cX7_rank 7 = .ok (.if_icmp .ge 31, 3) := by decide +kernel
theorem dX7_rank_10 : decode cX7_rank 10 = .ok (.iload_n 2, 1) := by decide +kernel
theorem dX7_rank_11 : decode cX7_rank 11 = .ok (.aload_n 0, 1) := by decide +kernel
theorem dX7_rank_12 : decode cX7_rank 12 = .ok (.getfield 41, 3) := by decide +kernel
theorem dX7_rank_15 : decode cX7_rank 15 = .ok (.bipush 12, 2) := by decide +kernel
theorem dX7_rank_17 : decode cX7_rank 17 = .ok (.iload_n 1, 1) := by decide +kernel
theorem dX7_rank_18 : decode cX7_rank 18 = .ok (.imul, 1) := by decide +kernel
theorem dX7_rank_19 : decode cX7_rank 19 = .ok (.iload_n 3, 1) := by decide +kernel
theorem dX7_rank_20 : decode cX7_rank 20 = .ok (.iadd, 1) := by decide +kernel
theorem dX7_rank_21 : decode cX7_rank 21 = .ok (.iaload, 1) := by decide +kernel
theorem dX7_rank_22 : decode cX7_rank 22 = .ok (.ifCond .eq 7, 3) := by decide +kernel
theorem dX7_rank_25 : decode cX7_rank 25 = .ok (.iconst 1, 1) := by decide +kernel
theorem dX7_rank_26 : decode cX7_rank 26 = .ok (.goto 4, 3) := by decide +kernel
theorem dX7_rank_29 : decode cX7_rank 29 = .ok (.iconst 0, 1) := by decide +kernel
theorem dX7_rank_30 : decode cX7_rank 30 = .ok (.iadd, 1) := by decide +kernel
theorem dX7_rank_31 : decode cX7_rank 31 = .ok (.istore_n 2, 1) := by decide +kernel
theorem dX7_rank_32 : decode cX7_rank 32 = .ok (.iinc 3 1, 3) := by decide +kernel
theorem dX7_rank_35 : decode cX7_rank 35 = .ok (.goto (-31), 3) := by decide +kernel
theorem dX7_rank_38 : decode cX7_rank 38 = .ok (.iload_n 2, 1) := by decide +kernel
theorem dX7_rank_39 : decode cX7_rank 39 = .ok (.ireturn, 1) := by decide +kernel
set_option maxRecDepth 20000 in
theorem ggX7_isWhole_X7_rank : GoodIn wsX7_isWhole wsX7_rank := goodIn_r _ [7, 8, 9, 10, 11, 12, 13, 14, 15, 16, 17, 18, 19, 20, 21, 22, 23, 24, 25, 26, 27, 28, 29, 30, 31, 32, 33, 34, 35, 36, 37, 38, 39, 40, 41, 42, 43, 44, 45, 46, 47, 48, 49] (by decide +kernel) (by decide +kernel)
set_option maxRecDepth 20000 in
theorem gX7_isWhole_X7_rank : GoodIn wsX7_isWhole (wsV RX7 145 RX7 yX7_rank wsX7_rank) := goodIn_app (goodIn_of _ (by decide +kernel)) ggX7_isWhole_X7_rank
theorem dX7_isWhole_0 : decode cX7_isWhole 0 = .ok (.aload_n 0, 1) := by decide +kernel
theorem dX7_isWhole_1 : decode cX7_isWhole 1 = .ok (.getfield 32, 3) := by decide +kernel
theorem dX7_isWhole_4 : decode cX7_isWhole 4 = .ok (.iload_n 1, 1) := by decide +kernel
theorem dX7_isWhole_5 : decode cX7_isWhole 5 = .ok (.iaload, 1) := by decide +kernel
theorem dX7_isWhole_6 : decode cX7_isWhole 6 = .ok (.ifCond .le 21, 3) := by decide +kernel
theorem dX7_isWhole_9 : decode cX7_isWhole 9 = .ok (.aload_n 0, 1) := by decide +kernel
theorem dX7_isWhole_10 : decode cX7_isWhole 10 = .ok (.iload_n 1, 1) := by decide +kernel
theorem dX7_isWhole_11 : decode cX7_isWhole 11 = .ok (.invokevirtual 145, 3) := by decide +kernel
theorem dX7_isWhole_14 : decode cX7_isWhole 14 = .ok (.aload_n 0, 1) := by decide +kernel
theorem dX7_isWhole_15 : decode cX7_isWhole 15 = .ok (.getfield 35, 3) := by decide +kernel
theorem dX7_isWhole_18 : decode cX7_isWhole 18 = .ok (.iload_n 1, 1) := by decide +kernel
theorem dX7_isWhole_19 : decode cX7_isWhole 19 = .ok (.iaload, 1) := by decide +kernel
theorem dX7_isWhole_20 : decode cX7_isWhole 20 = .ok (.if_icmp .ne 7, 3) := by decide +kernel
theorem dX7_isWhole_23 : decode cX7_isWhole 23 = .ok (.iconst 1, 1) := by decide +kernel
theorem dX7_isWhole_24 : decode cX7_isWhole 24 = .ok (.goto 4, 3) := by decide +kernel
theorem dX7_isWhole_27 : decode cX7_isWhole 27 = .ok (.iconst 0, 1) := by decide +kernel
theorem dX7_isWhole_28 : decode cX7_isWhole 28 = .ok (.ireturn, 1) := by decide +kernel
theorem dX7_empty_0 : decode cX7_empty 0 = .ok (.iconst 0, 1) := by decide +kernel
theorem dX7_empty_1 : decode cX7_empty 1 = .ok (.istore_n 2, 1) := by decide +kernel
theorem dX7_empty_2 : decode cX7_empty 2 = .ok (.iload_n 2, 1) := by decide +kernel
theorem dX7_empty_3 : decode cX7_empty 3 = .ok (.bipush 12, 2) := by decide +kernel
theorem dX7_empty_5 : decode cX7_empty 5 = .ok (.if_icmp .ge 33, 3) := by decide +kernel
theorem dX7_empty_8 : decode cX7_empty 8 = .ok (.aload_n 0, 1) := by decide +kernel
theorem dX7_empty_9 : decode cX7_empty 9 = .ok (.getfield 41, 3) := by decide +kernel
theorem dX7_empty_12 : decode cX7_empty 12 = .ok (.bipush 12, 2) := by decide +kernel
theorem dX7_empty_14 : decode cX7_empty 14 = .ok (.iload_n 1, 1) := by decide +kernel
theorem dX7_empty_15 : decode cX7_empty 15 = .ok (.imul, 1) := by decide +kernel
theorem dX7_empty_16 : decode cX7_empty 16 = .ok (.iload_n 2, 1) := by decide +kernel
theorem dX7_empty_17 : decode cX7_empty 17 = .ok (.iadd, 1) := by decide +kernel
theorem dX7_empty_18 : decode cX7_empty 18 = .ok (.iconst 0, 1) := by decide +kernel
theorem dX7_empty_19 : decode cX7_empty 19 = .ok (.iastore, 1) := by decide +kernel
theorem dX7_empty_20 : decode cX7_empty 20 = .ok (.aload_n 0, 1) := by decide +kernel
theorem dX7_empty_21 : decode cX7_empty 21 = .ok (.getfield 44, 3) := by decide +kernel
theorem dX7_empty_24 : decode cX7_empty 24 = .ok (.bipush 12, 2) := by decide +kernel
theorem dX7_empty_26 : decode cX7_empty 26 = .ok (.iload_n 1, 1) := by decide +kernel
theorem dX7_empty_27 : decode cX7_empty 27 = .ok (.imul, 1) := by decide +kernel
theorem dX7_empty_28 : decode cX7_empty 28 = .ok (.iload_n 2, 1) := by decide +kernel
theorem dX7_empty_29 : decode cX7_empty 29 = .ok (.iadd, 1) := by decide +kernel
theorem dX7_empty_30 : decode cX7_empty 30 = .ok (.iconst 0, 1) := by decide +kernel
theorem dX7_empty_31 : decode cX7_empty 31 = .ok (.iastore, 1) := by decide +kernel
theorem dX7_empty_32 : decode cX7_empty 32 = .ok (.iinc 2 1, 3) := by decide +kernel
theorem dX7_empty_35 : decode cX7_empty 35 = .ok (.goto (-33), 3) := by decide +kernel
theorem dX7_empty_38 : decode cX7_empty 38 = .ok (.return_, 1) := by decide +kernel
set_option maxRecDepth 20000 in
theorem ggX7_comesIn_X7_rank : GoodIn wsX7_comesIn wsX7_rank := goodIn_r _ [10, 1, 19, 20, 21, 22, 23, 24, 25, 26, 27, 28, 29, 30, 31, 32, 33, 34, 35, 36, 37, 38, 39, 40, 41, 42, 43, 44, 45, 46, 47, 48, 49, 50, 51, 52, 53, 54, 55, 56, 57, 58, 59] (by decide +kernel) (by decide +kernel)
set_option maxRecDepth 20000 in
theorem gX7_comesIn_X7_rank : GoodIn wsX7_comesIn (wsV RX7 145 RX7 yX7_rank wsX7_rank) := goodIn_app (goodIn_of _ (by decide +kernel)) ggX7_comesIn_X7_rank
set_option maxRecDepth 20000 in
theorem ggX7_comesIn_X7_sumOf : GoodIn wsX7_comesIn wsX7_sumOf := goodIn_r _ [14, 2, 19, 20, 21, 22, 23, 24, 25, 26, 27, 28, 29, 30, 31, 32, 33, 34, 35, 36, 37, 38, 39, 40, 41, 42, 43, 44, 45, 46, 47, 48, 49, 50, 51, 52, 53, 54, 55, 56, 57, 58, 59] (by decide +kernel) (by decide +kernel)
set_option maxRecDepth 20000 in
theorem gX7_comesIn_X7_sumOf : GoodIn wsX7_comesIn (wsV RX7 148 RX7 yX7_sumOf wsX7_sumOf) := goodIn_app (goodIn_of _ (by decide +kernel)) ggX7_comesIn_X7_sumOf
set_option maxRecDepth 20000 in
theorem ggX7_comesIn_X7_empty : GoodIn wsX7_comesIn wsX7_empty := goodIn_r _ [18, 1, 2, 19, 20, 21, 22, 23, 24, 25, 26, 27, 28, 29, 30, 31, 32, 33, 34, 35, 36, 37, 38, 39, 40, 41, 42, 43, 44, 45, 46, 47, 48, 49, 50, 51, 52, 53, 54, 55, 56, 57, 58, 59] (by decide +kernel) (by decide +kernel)
set_option maxRecDepth 20000 in
theorem gX7_comesIn_X7_empty : GoodIn wsX7_comesIn (wsV RX7 151 RX7 yX7_empty wsX7_empty) := goodIn_app (goodIn_of _ (by decide +kernel)) ggX7_comesIn_X7_empty
theorem dX7_comesIn_0 : decode cX7_comesIn 0 = .ok (.iload_n 2, 1) := by decide +kernel
theorem dX7_comesIn_1 : decode cX7_comesIn 1 = .ok (.istore 4, 2) := by decide +kernel
theorem dX7_comesIn_3 : decode cX7_comesIn 3 = .ok (.iload_n 3, 1) := by decide +kernel
theorem dX7_comesIn_4 : decode cX7_comesIn 4 = .ok (.istore 5, 2) := by decide +kernel
theorem dX7_comesIn_6 : decode cX7_comesIn 6 = .ok (.iconst 0, 1) := by decide +kernel
theorem dX7_comesIn_7 : decode cX7_comesIn 7 = .ok (.istore 6, 2) := by decide +kernel
theorem dX7_comesIn_9 : decode cX7_comesIn 9 = .ok (.iload 6, 2) := by decide +kernel
theorem dX7_comesIn_11 : decode cX7_comesIn 11 = .ok (.bipush 12, 2) := by decide +kernel
theorem dX7_comesIn_13 : decode cX7_comesIn 13 = .ok (.if_icmp .ge 71, 3) := by decide +kernel
theorem dX7_comesIn_16 : decode cX7_comesIn 16 = .ok (.aload_n 0, 1) := by decide +kernel
theorem dX7_comesIn_17 : decode cX7_comesIn 17 = .ok (.getfield 41, 3) := by decide +kernel
theorem dX7_comesIn_20 : decode cX7_comesIn 20 = .ok (.bipush 12, 2) := by decide +kernel
theorem dX7_comesIn_22 : decode cX7_comesIn 22 = .ok (.iload_n 1, 1) := by decide +kernel
theorem dX7_comesIn_23 : decode cX7_comesIn 23 = .ok (.imul, 1) := by decide +kernel
theorem dX7_comesIn_24 : decode cX7_comesIn 24 = .ok (.iload 6, 2) := by decide +kernel
theorem dX7_comesIn_26 : decode cX7_comesIn 26 = .ok (.iadd, 1) := by decide +kernel
theorem dX7_comesIn_27 : decode cX7_comesIn 27 = .ok (.iaload, 1) := by decide +kernel
theorem dX7_comesIn_28 : decode cX7_comesIn 28 = .ok (.ifCond .eq 50, 3) := by decide +kernel
theorem dX7_comesIn_31 : decode cX7_comesIn 31 = .ok (.iload 4, 2) := by decide +kernel
theorem dX7_comesIn_33 : decode cX7_comesIn 33 = .ok (.iload 6, 2) := by decide +kernel
theorem dX7_comesIn_35 : decode cX7_comesIn 35 = .ok (.ishr, 1) := by decide +kernel
theorem dX7_comesIn_36 : decode cX7_comesIn 36 = .ok (.iconst 1, 1) := by decide +kernel
theorem dX7_comesIn_37 : decode cX7_comesIn 37 = .ok (.iand, 1) := by decide +kernel
theorem dX7_comesIn_38 : decode cX7_comesIn 38 = .ok (.ifCond .ne 6, 3) := by decide +kernel
theorem dX7_comesIn_41 : decode cX7_comesIn 41 = .ok (.goto 37, 3) := by decide +kernel
theorem dX7_comesIn_44 : decode cX7_comesIn 44 = .ok (.iload 4, 2) := by decide +kernel
theorem dX7_comesIn_46 : decode cX7_comesIn 46 = .ok (.aload_n 0, 1) := by decide +kernel
theorem dX7_comesIn_47 : decode cX7_comesIn 47 = .ok (.getfield 41, 3) := by decide +kernel
theorem dX7_comesIn_50 : decode cX7_comesIn 50 = .ok (.bipush 12, 2) := by decide +kernel
theorem dX7_comesIn_52 : decode cX7_comesIn 52 = .ok (.iload_n 1, 1) := by decide +kernel
theorem dX7_comesIn_53 : decode cX7_comesIn 53 = .ok (.imul, 1) := by decide +kernel
theorem dX7_comesIn_54 : decode cX7_comesIn 54 = .ok (.iload 6, 2) := by decide +kernel
theorem dX7_comesIn_56 : decode cX7_comesIn 56 = .ok (.iadd, 1) := by decide +kernel
theorem dX7_comesIn_57 : decode cX7_comesIn 57 = .ok (.iaload, 1) := by decide +kernel
theorem dX7_comesIn_58 : decode cX7_comesIn 58 = .ok (.ixor, 1) := by decide +kernel
theorem dX7_comesIn_59 : decode cX7_comesIn 59 = .ok (.istore 4, 2) := by decide +kernel
theorem dX7_comesIn_61 : decode cX7_comesIn 61 = .ok (.iload 5, 2) := by decide +kernel
theorem dX7_comesIn_63 : decode cX7_comesIn 63 = .ok (.aload_n 0, 1) := by decide +kernel
theorem dX7_comesIn_64 : decode cX7_comesIn 64 = .ok (.getfield 44, 3) := by decide +kernel
theorem dX7_comesIn_67 : decode cX7_comesIn 67 = .ok (.bipush 12, 2) := by decide +kernel
theorem dX7_comesIn_69 : decode cX7_comesIn 69 = .ok (.iload_n 1, 1) := by decide +kernel
theorem dX7_comesIn_70 : decode cX7_comesIn 70 = .ok (.imul, 1) := by decide +kernel
theorem dX7_comesIn_71 : decode cX7_comesIn 71 = .ok (.iload 6, 2) := by decide +kernel
theorem dX7_comesIn_73 : decode cX7_comesIn 73 = .ok (.iadd, 1) := by decide +kernel
theorem dX7_comesIn_74 : decode cX7_comesIn 74 = .ok (.iaload, 1) := by decide +kernel
theorem dX7_comesIn_75 : decode cX7_comesIn 75 = .ok (.ixor, 1) := by decide +kernel
theorem dX7_comesIn_76 : decode cX7_comesIn 76 = .ok (.istore 5, 2) := by decide +kernel
theorem dX7_comesIn_78 : decode cX7_comesIn 78 = .ok (.iinc 6 1, 3) := by decide +kernel
theorem dX7_comesIn_81 : decode cX7_comesIn 81 = .ok (.goto (-72), 3) := by decide +kernel
theorem dX7_comesIn_84 : decode cX7_comesIn 84 = .ok (.iload 4, 2) := by decide +kernel
theorem dX7_comesIn_86 : decode cX7_comesIn 86 = .ok (.ifCond .ne 5, 3) := by decide +kernel
theorem dX7_comesIn_89 : decode cX7_comesIn 89 = .ok (.iconst 0, 1) := by decide +kernel
theorem dX7_comesIn_90 : decode cX7_comesIn 90 = .ok (.ireturn, 1) := by decide +kernel
theorem dX7_comesIn_91 : decode cX7_comesIn 91 = .ok (.bipush 11, 2) := by decide +kernel
theorem dX7_comesIn_93 : decode cX7_comesIn 93 = .ok (.istore 6, 2) := by decide +kernel
theorem dX7_comesIn_95 : decode cX7_comesIn 95 = .ok (.iload 4, 2) := by decide +kernel
theorem dX7_comesIn_97 : decode cX7_comesIn 97 = .ok (.iload 6, 2) := by decide +kernel
theorem dX7_comesIn_99 : decode cX7_comesIn 99 = .ok (.ishr, 1) := by decide +kernel
theorem dX7_comesIn_100 : decode cX7_comesIn 100 = .ok (.iconst 1, 1) := by decide +kernel
theorem dX7_comesIn_101 : decode cX7_comesIn 101 = .ok (.iand, 1) := by decide +kernel
theorem dX7_comesIn_102 : decode cX7_comesIn 102 = .ok (.ifCond .ne 9, 3) := by decide +kernel
theorem dX7_comesIn_105 : decode cX7_comesIn 105 = .ok (.iinc 6 (-1), 3) := by decide +kernel
theorem dX7_comesIn_108 : decode cX7_comesIn 108 = .ok (.goto (-13), 3) := by decide +kernel
theorem dX7_comesIn_111 : decode cX7_comesIn 111 = .ok (.iconst 0, 1) := by decide +kernel
theorem dX7_comesIn_112 : decode cX7_comesIn 112 = .ok (.istore 7, 2) := by decide +kernel
theorem dX7_comesIn_114 : decode cX7_comesIn 114 = .ok (.iload 7, 2) := by decide +kernel
theorem dX7_comesIn_116 : decode cX7_comesIn 116 = .ok (.bipush 12, 2) := by decide +kernel
theorem dX7_comesIn_118 : decode cX7_comesIn 118 = .ok (.if_icmp .ge 66, 3) := by decide +kernel
theorem dX7_comesIn_121 : decode cX7_comesIn 121 = .ok (.aload_n 0, 1) := by decide +kernel
theorem dX7_comesIn_122 : decode cX7_comesIn 122 = .ok (.getfield 41, 3) := by decide +kernel
theorem dX7_comesIn_125 : decode cX7_comesIn 125 = .ok (.bipush 12, 2) := by decide +kernel
theorem dX7_comesIn_127 : decode cX7_comesIn 127 = .ok (.iload_n 1, 1) := by decide +kernel
theorem dX7_comesIn_128 : decode cX7_comesIn 128 = .ok (.imul, 1) := by decide +kernel
theorem dX7_comesIn_129 : decode cX7_comesIn 129 = .ok (.iload 7, 2) := by decide +kernel
theorem dX7_comesIn_131 : decode cX7_comesIn 131 = .ok (.iadd, 1) := by decide +kernel
theorem dX7_comesIn_132 : decode cX7_comesIn 132 = .ok (.iaload, 1) := by decide +kernel
theorem dX7_comesIn_133 : decode cX7_comesIn 133 = .ok (.iload 6, 2) := by decide +kernel
theorem dX7_comesIn_135 : decode cX7_comesIn 135 = .ok (.ishr, 1) := by decide +kernel
theorem dX7_comesIn_136 : decode cX7_comesIn 136 = .ok (.iconst 1, 1) := by decide +kernel
theorem dX7_comesIn_137 : decode cX7_comesIn 137 = .ok (.iand, 1) := by decide +kernel
theorem dX7_comesIn_138 : decode cX7_comesIn 138 = .ok (.ifCond .ne 6, 3) := by decide +kernel
theorem dX7_comesIn_141 : decode cX7_comesIn 141 = .ok (.goto 37, 3) := by decide +kernel
theorem dX7_comesIn_144 : decode cX7_comesIn 144 = .ok (.aload_n 0, 1) := by decide +kernel
theorem dX7_comesIn_145 : decode cX7_comesIn 145 = .ok (.getfield 41, 3) := by decide +kernel
theorem dX7_comesIn_148 : decode cX7_comesIn 148 = .ok (.bipush 12, 2) := by decide +kernel
theorem dX7_comesIn_150 : decode cX7_comesIn 150 = .ok (.iload_n 1, 1) := by decide +kernel
theorem dX7_comesIn_151 : decode cX7_comesIn 151 = .ok (.imul, 1) := by decide +kernel
theorem dX7_comesIn_152 : decode cX7_comesIn 152 = .ok (.iload 7, 2) := by decide +kernel
theorem dX7_comesIn_154 : decode cX7_comesIn 154 = .ok (.iadd, 1) := by decide +kernel
theorem dX7_comesIn_155 : decode cX7_comesIn 155 = .ok (.dup2, 1) := by decide +kernel
theorem dX7_comesIn_156 : decode cX7_comesIn 156 = .ok (.iaload, 1) := by decide +kernel
theorem dX7_comesIn_157 : decode cX7_comesIn 157 = .ok (.iload 4, 2) := by decide +kernel
theorem dX7_comesIn_159 : decode cX7_comesIn 159 = .ok (.ixor, 1) := by decide +kernel
theorem dX7_comesIn_160 : decode cX7_comesIn 160 = .ok (.iastore, 1) := by decide +kernel
theorem dX7_comesIn_161 : decode cX7_comesIn 161 = .ok (.aload_n 0, 1) := by decide +kernel
theorem dX7_comesIn_162 : decode cX7_comesIn 162 = .ok (.getfield 44, 3) := by decide +kernel
theorem dX7_comesIn_165 : decode cX7_comesIn 165 = .ok (.bipush 12, 2) := by decide +kernel
theorem dX7_comesIn_167 : decode cX7_comesIn 167 = .ok (.iload_n 1, 1) := by decide +kernel
theorem dX7_comesIn_168 : decode cX7_comesIn 168 = .ok (.imul, 1) := by decide +kernel
theorem dX7_comesIn_169 : decode cX7_comesIn 169 = .ok (.iload 7, 2) := by decide +kernel
theorem dX7_comesIn_171 : decode cX7_comesIn 171 = .ok (.iadd, 1) := by decide +kernel
theorem dX7_comesIn_172 : decode cX7_comesIn 172 = .ok (.dup2, 1) := by decide +kernel
theorem dX7_comesIn_173 : decode cX7_comesIn 173 = .ok (.iaload, 1) := by decide +kernel
theorem dX7_comesIn_174 : decode cX7_comesIn 174 = .ok (.iload 5, 2) := by decide +kernel
theorem dX7_comesIn_176 : decode cX7_comesIn 176 = .ok (.ixor, 1) := by decide +kernel
theorem dX7_comesIn_177 : decode cX7_comesIn 177 = .ok (.iastore, 1) := by decide +kernel
theorem dX7_comesIn_178 : decode cX7_comesIn 178 = .ok (.iinc 7 1, 3) := by decide +kernel
theorem dX7_comesIn_181 : decode cX7_comesIn 181 = .ok (.goto (-67), 3) := by decide +kernel
theorem dX7_comesIn_184 : decode cX7_comesIn 184 = .ok (.aload_n 0, 1) := by decide +kernel
theorem dX7_comesIn_185 : decode cX7_comesIn 185 = .ok (.getfield 41, 3) := by decide +kernel
theorem dX7_comesIn_188 : decode cX7_comesIn 188 = .ok (.bipush 12, 2) := by decide +kernel
theorem dX7_comesIn_190 : decode cX7_comesIn 190 = .ok (.iload_n 1, 1) := by decide +kernel
theorem dX7_comesIn_191 : decode cX7_comesIn 191 = .ok (.imul, 1) := by decide +kernel
theorem dX7_comesIn_192 : decode cX7_comesIn 192 = .ok (.iload 6, 2) := by decide +kernel
theorem dX7_comesIn_194 : decode cX7_comesIn 194 = .ok (.iadd, 1) := by decide +kernel
theorem dX7_comesIn_195 : decode cX7_comesIn 195 = .ok (.iload 4, 2) := by decide +kernel
theorem dX7_comesIn_197 : decode cX7_comesIn 197 = .ok (.iastore, 1) := by decide +kernel
theorem dX7_comesIn_198 : decode cX7_comesIn 198 = .ok (.aload_n 0, 1) := by decide +kernel
theorem dX7_comesIn_199 : decode cX7_comesIn 199 = .ok (.getfield 44, 3) := by decide +kernel
theorem dX7_comesIn_202 : decode cX7_comesIn 202 = .ok (.bipush 12, 2) := by decide +kernel
theorem dX7_comesIn_204 : decode cX7_comesIn 204 = .ok (.iload_n 1, 1) := by decide +kernel
theorem dX7_comesIn_205 : decode cX7_comesIn 205 = .ok (.imul, 1) := by decide +kernel
theorem dX7_comesIn_206 : decode cX7_comesIn 206 = .ok (.iload 6, 2) := by decide +kernel
theorem dX7_comesIn_208 : decode cX7_comesIn 208 = .ok (.iadd, 1) := by decide +kernel
theorem dX7_comesIn_209 : decode cX7_comesIn 209 = .ok (.iload 5, 2) := by decide +kernel
theorem dX7_comesIn_211 : decode cX7_comesIn 211 = .ok (.iastore, 1) := by decide +kernel
theorem dX7_comesIn_212 : decode cX7_comesIn 212 = .ok (.aload_n 0, 1) := by decide +kernel
theorem dX7_comesIn_213 : decode cX7_comesIn 213 = .ok (.iload_n 1, 1) := by decide +kernel
theorem dX7_comesIn_214 : decode cX7_comesIn 214 = .ok (.invokevirtual 145, 3) := by decide +kernel
theorem dX7_comesIn_217 : decode cX7_comesIn 217 = .ok (.aload_n 0, 1) := by decide +kernel
theorem dX7_comesIn_218 : decode cX7_comesIn 218 = .ok (.getfield 35, 3) := by decide +kernel
theorem dX7_comesIn_221 : decode cX7_comesIn 221 = .ok (.iload_n 1, 1) := by decide +kernel
theorem dX7_comesIn_222 : decode cX7_comesIn 222 = .ok (.iaload, 1) := by decide +kernel
theorem dX7_comesIn_223 : decode cX7_comesIn 223 = .ok (.if_icmp .ne 32, 3) := by decide +kernel
theorem dX7_comesIn_226 : decode cX7_comesIn 226 = .ok (.aload_n 0, 1) := by decide +kernel
theorem dX7_comesIn_227 : decode cX7_comesIn 227 = .ok (.iload_n 1, 1) := by decide +kernel
theorem dX7_comesIn_228 : decode cX7_comesIn 228 = .ok (.invokevirtual 148, 3) := by decide +kernel
theorem dX7_comesIn_231 : decode cX7_comesIn 231 = .ok (.aload_n 0, 1) := by decide +kernel
theorem dX7_comesIn_232 : decode cX7_comesIn 232 = .ok (.getfield 38, 3) := by decide +kernel
theorem dX7_comesIn_235 : decode cX7_comesIn 235 = .ok (.iload_n 1, 1) := by decide +kernel
theorem dX7_comesIn_236 : decode cX7_comesIn 236 = .ok (.iaload, 1) := by decide +kernel
theorem dX7_comesIn_237 : decode cX7_comesIn 237 = .ok (.if_icmp .eq 18, 3) := by decide +kernel
theorem dX7_comesIn_240 : decode cX7_comesIn 240 = .ok (.aload_n 0, 1) := by decide +kernel
theorem dX7_comesIn_241 : decode cX7_comesIn 241 = .ok (.getfield 77, 3) := by decide +kernel
theorem dX7_comesIn_244 : decode cX7_comesIn 244 = .ok (.iload_n 1, 1) := by decide +kernel
theorem dX7_comesIn_245 : decode cX7_comesIn 245 = .ok (.dup2, 1) := by decide +kernel
theorem dX7_comesIn_246 : decode cX7_comesIn 246 = .ok (.iaload, 1) := by decide +kernel
theorem dX7_comesIn_247 : decode cX7_comesIn 247 = .ok (.iconst 1, 1) := by decide +kernel
theorem dX7_comesIn_248 : decode cX7_comesIn 248 = .ok (.iadd, 1) := by decide +kernel
theorem dX7_comesIn_249 : decode cX7_comesIn 249 = .ok (.iastore, 1) := by decide +kernel
theorem dX7_comesIn_250 : decode cX7_comesIn 250 = .ok (.aload_n 0, 1) := by decide +kernel
theorem dX7_comesIn_251 : decode cX7_comesIn 251 = .ok (.iload_n 1, 1) := by decide +kernel
theorem dX7_comesIn_252 : decode cX7_comesIn 252 = .ok (.invokevirtual 151, 3) := by decide +kernel
theorem dX7_comesIn_255 : decode cX7_comesIn 255 = .ok (.iconst 1, 1) := by decide +kernel
theorem dX7_comesIn_256 : decode cX7_comesIn 256 = .ok (.ireturn, 1) := by decide +kernel
theorem dX7_sumOf_0 : decode cX7_sumOf 0 = .ok (.iconst 0, 1) := by decide +kernel
theorem dX7_sumOf_1 : decode cX7_sumOf 1 = .ok (.istore_n 2, 1) := by decide +kernel
theorem dX7_sumOf_2 : decode cX7_sumOf 2 = .ok (.iconst 0, 1) := by decide +kernel
theorem dX7_sumOf_3 : decode cX7_sumOf 3 = .ok (.istore_n 3, 1) := by decide +kernel
theorem dX7_sumOf_4 : decode cX7_sumOf 4 = .ok (.iload_n 3, 1) := by decide +kernel
theorem dX7_sumOf_5 : decode cX7_sumOf 5 = .ok (.bipush 12, 2) := by decide +kernel
theorem dX7_sumOf_7 : decode cX7_sumOf 7 = .ok (.if_icmp .ge 27, 3) := by decide +kernel
theorem dX7_sumOf_10 : decode cX7_sumOf 10 = .ok (.iload_n 2, 1) := by decide +kernel
theorem dX7_sumOf_11 : decode cX7_sumOf 11 = .ok (.aload_n 0, 1) := by decide +kernel
theorem dX7_sumOf_12 : decode cX7_sumOf 12 = .ok (.getfield 44, 3) := by decide +kernel
theorem dX7_sumOf_15 : decode cX7_sumOf 15 = .ok (.bipush 12, 2) := by decide +kernel
theorem dX7_sumOf_17 : decode cX7_sumOf 17 = .ok (.iload_n 1, 1) := by decide +kernel
theorem dX7_sumOf_18 : decode cX7_sumOf 18 = .ok (.imul, 1) := by decide +kernel
theorem dX7_sumOf_19 : decode cX7_sumOf 19 = .ok (.iload_n 3, 1) := by decide +kernel
theorem dX7_sumOf_20 : decode cX7_sumOf 20 = .ok (.iadd, 1) := by decide +kernel
theorem dX7_sumOf_21 : decode cX7_sumOf 21 = .ok (.iaload, 1) := by decide +kernel
theorem dX7_sumOf_22 : decode cX7_sumOf 22 = .ok (.iload_n 3, 1) := by decide +kernel
theorem dX7_sumOf_23 : decode cX7_sumOf 23 = .ok (.iconst 1, 1) := by decide +kernel
theorem dX7_sumOf_24 : decode cX7_sumOf 24 = .ok (.iadd, 1) := by decide +kernel
theorem dX7_sumOf_25 : decode cX7_sumOf 25 = .ok (.imul, 1) := by decide +kernel
theorem dX7_sumOf_26 : decode cX7_sumOf 26 = .ok (.iadd, 1) := by decide +kernel
theorem dX7_sumOf_27 : decode cX7_sumOf 27 = .ok (.istore_n 2, 1) := by decide +kernel
theorem dX7_sumOf_28 : decode cX7_sumOf 28 = .ok (.iinc 3 1, 3) := by decide +kernel
theorem dX7_sumOf_31 : decode cX7_sumOf 31 = .ok (.goto (-27), 3) := by decide +kernel
theorem dX7_sumOf_34 : decode cX7_sumOf 34 = .ok (.iload_n 2, 1) := by decide +kernel
theorem dX7_sumOf_35 : decode cX7_sumOf 35 = .ok (.ireturn, 1) := by decide +kernel
set_option maxRecDepth 20000 in
theorem ggX7_stir_X7_begin : GoodIn wsX7_stir wsX7_begin := goodIn_r _ [8, 9, 10, 11, 1, 12, 13, 14, 7, 15, 16, 17, 18, 19, 20, 21, 22, 23, 24, 25, 26, 27, 28, 29, 30, 31, 32, 33, 34, 35, 36, 37, 38, 39, 40, 41, 42, 43, 44, 45, 46, 47, 48, 49, 50, 51, 52, 53, 54, 55, 56, 57, 58] (by decide +kernel) (by decide +kernel)
set_option maxRecDepth 20000 in
theorem gX7_stir_X7_begin : GoodIn wsX7_stir (wsV RX7 134 RX7 yX7_begin wsX7_begin) := goodIn_app (goodIn_of _ (by decide +kernel)) ggX7_stir_X7_begin
theorem dX7_stir_0 : decode cX7_stir 0 = .ok (.aload_n 0, 1) := by decide +kernel
theorem dX7_stir_1 : decode cX7_stir 1 = .ok (.getfield 50, 3) := by decide +kernel
theorem dX7_stir_4 : decode cX7_stir 4 = .ok (.iload_n 1, 1) := by decide +kernel
theorem dX7_stir_5 : decode cX7_stir 5 = .ok (.iaload, 1) := by decide +kernel
theorem dX7_stir_6 : decode cX7_stir 6 = .ok (.aload_n 0, 1) := by decide +kernel
theorem dX7_stir_7 : decode cX7_stir 7 = .ok (.getfield 16, 3) := by decide +kernel
theorem dX7_stir_10 : decode cX7_stir 10 = .ok (.if_icmp .gt 4, 3) := by decide +kernel
theorem dX7_stir_13 : decode cX7_stir 13 = .ok (.return_, 1) := by decide +kernel
theorem dX7_stir_14 : decode cX7_stir 14 = .ok (.aload_n 0, 1) := by decide +kernel
theorem dX7_stir_15 : decode cX7_stir 15 = .ok (.getfield 50, 3) := by decide +kernel
theorem dX7_stir_18 : decode cX7_stir 18 = .ok (.iload_n 1, 1) := by decide +kernel
theorem dX7_stir_19 : decode cX7_stir 19 = .ok (.aload_n 0, 1) := by decide +kernel
theorem dX7_stir_20 : decode cX7_stir 20 = .ok (.getfield 16, 3) := by decide +kernel
theorem dX7_stir_23 : decode cX7_stir 23 = .ok (.iastore, 1) := by decide +kernel
theorem dX7_stir_24 : decode cX7_stir 24 = .ok (.aload_n 0, 1) := by decide +kernel
theorem dX7_stir_25 : decode cX7_stir 25 = .ok (.iload_n 1, 1) := by decide +kernel
theorem dX7_stir_26 : decode cX7_stir 26 = .ok (.aload_n 0, 1) := by decide +kernel
theorem dX7_stir_27 : decode cX7_stir 27 = .ok (.getfield 131, 3) := by decide +kernel
theorem dX7_stir_30 : decode cX7_stir 30 = .ok (.iconst 1, 1) := by decide +kernel
theorem dX7_stir_31 : decode cX7_stir 31 = .ok (.iadd, 1) := by decide +kernel
theorem dX7_stir_32 : decode cX7_stir 32 = .ok (.invokevirtual 134, 3) := by decide +kernel
theorem dX7_stir_35 : decode cX7_stir 35 = .ok (.return_, 1) := by decide +kernel
set_option maxRecDepth 20000 in
theorem ggX7_load_X7_isMachine : GoodIn wsX7_load wsX7_isMachine := goodIn_r _ [12, 13, 14, 15, 11, 16, 45, 46, 47, 48, 49, 50, 51, 52, 53, 54, 55, 56, 57, 58, 59, 60, 61, 62, 63, 64, 65, 66, 67, 68, 69, 70, 71, 72, 73, 74, 75, 76, 77, 78, 79, 80, 81, 82, 83, 84, 85] (by decide +kernel) (by decide +kernel)
set_option maxRecDepth 20000 in
theorem gX7_load_X7_isMachine : GoodIn wsX7_load (wsV RX7 138 RX7 yX7_isMachine wsX7_isMachine) := goodIn_app (goodIn_of _ (by decide +kernel)) ggX7_load_X7_isMachine
set_option maxRecDepth 20000 in
theorem ggX7_load_X7_isIn : GoodIn wsX7_load wsX7_isIn := goodIn_r _ [16] (by decide +kernel) (by decide +kernel)
set_option maxRecDepth 20000 in
theorem gX7_load_X7_isIn : GoodIn wsX7_load (va_wsS RX7 122 yX7_isIn wsX7_isIn) := goodIn_app (goodIn_of _ (by decide +kernel)) ggX7_load_X7_isIn
set_option maxRecDepth 20000 in
theorem ggX7_load_X7_empty : GoodIn wsX7_load wsX7_empty := goodIn_r _ [20, 4, 5, 45, 46, 47, 48, 49, 50, 51, 52, 53, 54, 55, 56, 57, 58, 59, 60, 61, 62, 63, 64, 65, 66, 67, 68, 69, 70, 71, 72, 73, 74, 75, 76, 77, 78, 79, 80, 81, 82, 83, 84, 85] (by decide +kernel) (by decide +kernel)
set_option maxRecDepth 20000 in
theorem gX7_load_X7_empty : GoodIn wsX7_load (wsV RX7 151 RX7 yX7_empty wsX7_empty) := goodIn_app (goodIn_of _ (by decide +kernel)) ggX7_load_X7_empty
set_option maxRecDepth 20000 in
theorem ggX7_load_X7_sumOf : GoodIn wsX7_load wsX7_sumOf := goodIn_r _ [24, 5, 45, 46, 47, 48, 49, 50, 51, 52, 53, 54, 55, 56, 57, 58, 59, 60, 61, 62, 63, 64, 65, 66, 67, 68, 69, 70, 71, 72, 73, 74, 75, 76, 77, 78, 79, 80, 81, 82, 83, 84, 85] (by decide +kernel) (by decide +kernel)
set_option maxRecDepth 20000 in
theorem gX7_load_X7_sumOf : GoodIn wsX7_load (wsV RX7 148 RX7 yX7_sumOf wsX7_sumOf) := goodIn_app (goodIn_of _ (by decide +kernel)) ggX7_load_X7_sumOf
set_option maxRecDepth 20000 in
theorem ggX7_load_X7_stir : GoodIn wsX7_load wsX7_stir := goodIn_r _ [28, 29, 30, 31, 32, 33, 34, 11, 35, 36, 37, 38, 39, 40, 41, 42, 43, 44, 45, 46, 47, 48, 49, 50, 51, 52, 53, 54, 55, 56, 57, 58, 59, 60, 61, 62, 63, 64, 65, 66, 67, 68, 69, 70, 71, 72, 73, 74, 75, 76, 77, 78, 79, 80, 81, 82, 83, 84, 85] (by decide +kernel) (by decide +kernel)
set_option maxRecDepth 20000 in
theorem gX7_load_X7_stir : GoodIn wsX7_load (wsV RX7 155 RX7 yX7_stir wsX7_stir) := goodIn_app (goodIn_of _ (by decide +kernel)) ggX7_load_X7_stir
theorem dX7_load_0 : decode cX7_load 0 = .ok (.aload_n 0, 1) := by decide +kernel
theorem dX7_load_1 : decode cX7_load 1 = .ok (.iload_n 1, 1) := by decide +kernel
theorem dX7_load_2 : decode cX7_load 2 = .ok (.invokevirtual 138, 3) := by decide +kernel
theorem dX7_load_5 : decode cX7_load 5 = .ok (.ifCond .eq 28, 3) := by decide +kernel
theorem dX7_load_8 : decode cX7_load 8 = .ok (.aload_n 0, 1) := by decide +kernel
theorem dX7_load_9 : decode cX7_load 9 = .ok (.getfield 142, 3) := by decide +kernel
theorem dX7_load_12 : decode cX7_load 12 = .ok (.ifCond .eq 21, 3) := by decide +kernel
theorem dX7_load_15 : decode cX7_load 15 = .ok (.iload_n 2, 1) := by decide +kernel
theorem dX7_load_16 : decode cX7_load 16 = .ok (.aload_n 0, 1) := by decide +kernel
theorem dX7_load_17 : decode cX7_load 17 = .ok (.getfield 32, 3) := by decide +kernel
theorem dX7_load_20 : decode cX7_load 20 = .ok (.iload_n 1, 1) := by decide +kernel
theorem dX7_load_21 : decode cX7_load 21 = .ok (.iaload, 1) := by decide +kernel
theorem dX7_load_22 : decode cX7_load 22 = .ok (.iconst 1, 1) := by decide +kernel
theorem dX7_load_23 : decode cX7_load 23 = .ok (.iadd, 1) := by decide +kernel
theorem dX7_load_24 : decode cX7_load 24 = .ok (.sipush 9999, 3) := by decide +kernel
theorem dX7_load_27 : decode cX7_load 27 = .ok (.invokestatic 122, 3) := by decide +kernel
theorem dX7_load_30 : decode cX7_load 30 = .ok (.ifCond .ne 5, 3) := by decide +kernel
theorem dX7_load_33 : decode cX7_load 33 = .ok (.iconst (-1), 1) := by decide +kernel
theorem dX7_load_34 : decode cX7_load 34 = .ok (.ireturn, 1) := by decide +kernel
theorem dX7_load_35 : decode cX7_load 35 = .ok (.aload_n 0, 1) := by decide +kernel
theorem dX7_load_36 : decode cX7_load 36 = .ok (.getfield 32, 3) := by decide +kernel
theorem dX7_load_39 : decode cX7_load 39 = .ok (.iload_n 1, 1) := by decide +kernel
theorem dX7_load_40 : decode cX7_load 40 = .ok (.iload_n 2, 1) := by decide +kernel
theorem dX7_load_41 : decode cX7_load 41 = .ok (.iastore, 1) := by decide +kernel
theorem dX7_load_42 : decode cX7_load 42 = .ok (.aload_n 0, 1) := by decide +kernel
theorem dX7_load_43 : decode cX7_load 43 = .ok (.getfield 35, 3) := by decide +kernel
theorem dX7_load_46 : decode cX7_load 46 = .ok (.iload_n 1, 1) := by decide +kernel
theorem dX7_load_47 : decode cX7_load 47 = .ok (.aload_n 0, 1) := by decide +kernel
theorem dX7_load_48 : decode cX7_load 48 = .ok (.getfield 142, 3) := by decide +kernel
theorem dX7_load_51 : decode cX7_load 51 = .ok (.iastore, 1) := by decide +kernel
theorem dX7_load_52 : decode cX7_load 52 = .ok (.aload_n 0, 1) := by decide +kernel
theorem dX7_load_53 : decode cX7_load 53 = .ok (.iload_n 1, 1) := by decide +kernel
theorem dX7_load_54 : decode cX7_load 54 = .ok (.invokevirtual 151, 3) := by decide +kernel
theorem dX7_load_57 : decode cX7_load 57 = .ok (.iconst 0, 1) := by decide +kernel
theorem dX7_load_58 : decode cX7_load 58 = .ok (.istore_n 3, 1) := by decide +kernel
theorem dX7_load_59 : decode cX7_load 59 = .ok (.iload_n 3, 1) := by decide +kernel
theorem dX7_load_60 : decode cX7_load 60 = .ok (.aload_n 0, 1) := by decide +kernel
theorem dX7_load_61 : decode cX7_load 61 = .ok (.getfield 142, 3) := by decide +kernel
theorem dX7_load_64 : decode cX7_load 64 = .ok (.if_icmp .ge 40, 3) := by decide +kernel
theorem dX7_load_67 : decode cX7_load 67 = .ok (.aload_n 0, 1) := by decide +kernel
theorem dX7_load_68 : decode cX7_load 68 = .ok (.getfield 41, 3) := by decide +kernel
theorem dX7_load_71 : decode cX7_load 71 = .ok (.bipush 12, 2) := by decide +kernel
theorem dX7_load_73 : decode cX7_load 73 = .ok (.iload_n 1, 1) := by decide +kernel
theorem dX7_load_74 : decode cX7_load 74 = .ok (.imul, 1) := by decide +kernel
theorem dX7_load_75 : decode cX7_load 75 = .ok (.iload_n 3, 1) := by decide +kernel
theorem dX7_load_76 : decode cX7_load 76 = .ok (.iadd, 1) := by decide +kernel
theorem dX7_load_77 : decode cX7_load 77 = .ok (.iconst 1, 1) := by decide +kernel
theorem dX7_load_78 : decode cX7_load 78 = .ok (.iload_n 3, 1) := by decide +kernel
theorem dX7_load_79 : decode cX7_load 79 = .ok (.ishl, 1) := by decide +kernel
theorem dX7_load_80 : decode cX7_load 80 = .ok (.iastore, 1) := by decide +kernel
theorem dX7_load_81 : decode cX7_load 81 = .ok (.aload_n 0, 1) := by decide +kernel
theorem dX7_load_82 : decode cX7_load 82 = .ok (.getfield 44, 3) := by decide +kernel
theorem dX7_load_85 : decode cX7_load 85 = .ok (.bipush 12, 2) := by decide +kernel
theorem dX7_load_87 : decode cX7_load 87 = .ok (.iload_n 1, 1) := by decide +kernel
theorem dX7_load_88 : decode cX7_load 88 = .ok (.imul, 1) := by decide +kernel
theorem dX7_load_89 : decode cX7_load 89 = .ok (.iload_n 3, 1) := by decide +kernel
theorem dX7_load_90 : decode cX7_load 90 = .ok (.iadd, 1) := by decide +kernel
theorem dX7_load_91 : decode cX7_load 91 = .ok (.aload_n 0, 1) := by decide +kernel
theorem dX7_load_92 : decode cX7_load 92 = .ok (.getfield 25, 3) := by decide +kernel
theorem dX7_load_95 : decode cX7_load 95 = .ok (.iload_n 3, 1) := by decide +kernel
theorem dX7_load_96 : decode cX7_load 96 = .ok (.iaload, 1) := by decide +kernel
theorem dX7_load_97 : decode cX7_load 97 = .ok (.iastore, 1) := by decide +kernel
theorem dX7_load_98 : decode cX7_load 98 = .ok (.iinc 3 1, 3) := by decide +kernel
theorem dX7_load_101 : decode cX7_load 101 = .ok (.goto (-42), 3) := by decide +kernel
theorem dX7_load_104 : decode cX7_load 104 = .ok (.aload_n 0, 1) := by decide +kernel
theorem dX7_load_105 : decode cX7_load 105 = .ok (.getfield 38, 3) := by decide +kernel
theorem dX7_load_108 : decode cX7_load 108 = .ok (.iload_n 1, 1) := by decide +kernel
theorem dX7_load_109 : decode cX7_load 109 = .ok (.aload_n 0, 1) := by decide +kernel
theorem dX7_load_110 : decode cX7_load 110 = .ok (.iload_n 1, 1) := by decide +kernel
theorem dX7_load_111 : decode cX7_load 111 = .ok (.invokevirtual 148, 3) := by decide +kernel
theorem dX7_load_114 : decode cX7_load 114 = .ok (.iastore, 1) := by decide +kernel
theorem dX7_load_115 : decode cX7_load 115 = .ok (.aload_n 0, 1) := by decide +kernel
theorem dX7_load_116 : decode cX7_load 116 = .ok (.iconst 0, 1) := by decide +kernel
theorem dX7_load_117 : decode cX7_load 117 = .ok (.putfield 142, 3) := by decide +kernel
theorem dX7_load_120 : decode cX7_load 120 = .ok (.aload_n 0, 1) := by decide +kernel
theorem dX7_load_121 : decode cX7_load 121 = .ok (.iload_n 1, 1) := by decide +kernel
theorem dX7_load_122 : decode cX7_load 122 = .ok (.invokevirtual 155, 3) := by decide +kernel
theorem dX7_load_125 : decode cX7_load 125 = .ok (.aload_n 0, 1) := by decide +kernel
theorem dX7_load_126 : decode cX7_load 126 = .ok (.getfield 35, 3) := by decide +kernel
theorem dX7_load_129 : decode cX7_load 129 = .ok (.iload_n 1, 1) := by decide +kernel
theorem dX7_load_130 : decode cX7_load 130 = .ok (.iaload, 1) := by decide +kernel
theorem dX7_load_131 : decode cX7_load 131 = .ok (.ireturn, 1) := by decide +kernel
set_option maxRecDepth 20000 in
theorem ggX7_turn_X7_isMachine : GoodIn wsX7_turn wsX7_isMachine := goodIn_r _ [8, 9, 10, 11, 7, 12, 13, 14, 15, 16, 17, 18, 19, 20, 21, 22, 23, 24, 25, 26, 27, 28, 29, 30, 31, 32, 33, 34, 35, 36, 37, 38, 39, 40, 41, 42, 43, 44, 45, 46, 47, 48, 49, 50, 51, 52, 53] (by decide +kernel) (by decide +kernel)
set_option maxRecDepth 20000 in
theorem gX7_turn_X7_isMachine : GoodIn wsX7_turn (wsV RX7 138 RX7 yX7_isMachine wsX7_isMachine) := goodIn_app (goodIn_of _ (by decide +kernel)) ggX7_turn_X7_isMachine
set_option maxRecDepth 20000 in
theorem ggX7_turn_X7_isIn : GoodIn wsX7_turn wsX7_isIn := goodIn_r _ [12] (by decide +kernel) (by decide +kernel)
set_option maxRecDepth 20000 in
theorem gX7_turn_X7_isIn : GoodIn wsX7_turn (va_wsS RX7 122 yX7_isIn wsX7_isIn) := goodIn_app (goodIn_of _ (by decide +kernel)) ggX7_turn_X7_isIn
theorem dX7_turn_0 : decode cX7_turn 0 = .ok (.aload_n 0, 1) := by decide +kernel
theorem dX7_turn_1 : decode cX7_turn 1 = .ok (.iload_n 1, 1) := by decide +kernel
theorem dX7_turn_2 : decode cX7_turn 2 = .ok (.invokevirtual 138, 3) := by decide +kernel
theorem dX7_turn_5 : decode cX7_turn 5 = .ok (.ifCond .eq 31, 3) := by decide +kernel
theorem dX7_turn_8 : decode cX7_turn 8 = .ok (.iload_n 2, 1) := by decide +kernel
theorem dX7_turn_9 : decode cX7_turn 9 = .ok (.aload_n 0, 1) := by decide +kernel
theorem dX7_turn_10 : decode cX7_turn 10 = .ok (.getfield 80, 3) := by decide +kernel
theorem dX7_turn_13 : decode cX7_turn 13 = .ok (.iload_n 1, 1) := by decide +kernel
theorem dX7_turn_14 : decode cX7_turn 14 = .ok (.iaload, 1) := by decide +kernel
theorem dX7_turn_15 : decode cX7_turn 15 = .ok (.iconst 1, 1) := by decide +kernel
theorem dX7_turn_16 : decode cX7_turn 16 = .ok (.iadd, 1) := by decide +kernel
theorem dX7_turn_17 : decode cX7_turn 17 = .ok (.sipush 9999, 3) := by decide +kernel
theorem dX7_turn_20 : decode cX7_turn 20 = .ok (.invokestatic 122, 3) := by decide +kernel
theorem dX7_turn_23 : decode cX7_turn 23 = .ok (.ifCond .eq 13, 3) := by decide +kernel
theorem dX7_turn_26 : decode cX7_turn 26 = .ok (.iload_n 3, 1) := by decide +kernel
theorem dX7_turn_27 : decode cX7_turn 27 = .ok (.iconst 0, 1) := by decide +kernel
theorem dX7_turn_28 : decode cX7_turn 28 = .ok (.ldc 158, 2) := by decide +kernel
theorem dX7_turn_30 : decode cX7_turn 30 = .ok (.invokestatic 122, 3) := by decide +kernel
theorem dX7_turn_33 : decode cX7_turn 33 = .ok (.ifCond .ne 5, 3) := by decide +kernel
theorem dX7_turn_36 : decode cX7_turn 36 = .ok (.iconst 0, 1) := by decide +kernel
theorem dX7_turn_37 : decode cX7_turn 37 = .ok (.ireturn, 1) := by decide +kernel
theorem dX7_turn_38 : decode cX7_turn 38 = .ok (.aload_n 0, 1) := by decide +kernel
theorem dX7_turn_39 : decode cX7_turn 39 = .ok (.getfield 80, 3) := by decide +kernel
theorem dX7_turn_42 : decode cX7_turn 42 = .ok (.iload_n 1, 1) := by decide +kernel
theorem dX7_turn_43 : decode cX7_turn 43 = .ok (.iload_n 2, 1) := by decide +kernel
theorem dX7_turn_44 : decode cX7_turn 44 = .ok (.iastore, 1) := by decide +kernel
theorem dX7_turn_45 : decode cX7_turn 45 = .ok (.aload_n 0, 1) := by decide +kernel
theorem dX7_turn_46 : decode cX7_turn 46 = .ok (.getfield 83, 3) := by decide +kernel
theorem dX7_turn_49 : decode cX7_turn 49 = .ok (.iload_n 1, 1) := by decide +kernel
theorem dX7_turn_50 : decode cX7_turn 50 = .ok (.iload_n 3, 1) := by decide +kernel
theorem dX7_turn_51 : decode cX7_turn 51 = .ok (.iastore, 1) := by decide +kernel
theorem dX7_turn_52 : decode cX7_turn 52 = .ok (.iconst 1, 1) := by decide +kernel
theorem dX7_turn_53 : decode cX7_turn 53 = .ok (.ireturn, 1) := by decide +kernel
set_option maxRecDepth 20000 in
theorem ggX7_own_X7_comesIn : GoodIn wsX7_own wsX7_comesIn := goodIn_r _ [6, 7, 8, 9, 10, 11, 12, 13, 14, 5, 15, 16, 17, 18, 19, 20, 21, 22, 23, 44, 45, 46, 47, 48, 49, 50, 51, 52, 53, 54, 55, 56, 57, 58, 59, 60, 61, 62, 63, 64, 65, 66, 67, 68, 69, 70, 71, 72, 73, 74, 75, 76, 77, 78, 79, 80, 81, 82, 83, 84] (by decide +kernel) (by decide +kernel)
set_option maxRecDepth 20000 in
theorem gX7_own_X7_comesIn : GoodIn wsX7_own (wsV RX7 159 RX7 yX7_comesIn wsX7_comesIn) := goodIn_app (goodIn_of _ (by decide +kernel)) ggX7_own_X7_comesIn
set_option maxRecDepth 20000 in
theorem ggX7_own_X7_stir : GoodIn wsX7_own wsX7_stir := goodIn_r _ [27, 28, 29, 30, 31, 32, 33, 5, 34, 35, 36, 37, 38, 39, 40, 41, 42, 43, 44, 45, 46, 47, 48, 49, 50, 51, 52, 53, 54, 55, 56, 57, 58, 59, 60, 61, 62, 63, 64, 65, 66, 67, 68, 69, 70, 71, 72, 73, 74, 75, 76, 77, 78, 79, 80, 81, 82, 83, 84] (by decide +kernel) (by decide +kernel)
set_option maxRecDepth 20000 in
theorem gX7_own_X7_stir : GoodIn wsX7_own (wsV RX7 155 RX7 yX7_stir wsX7_stir) := goodIn_app (goodIn_of _ (by decide +kernel)) ggX7_own_X7_stir
theorem dX7_own_0 : decode cX7_own 0 = .ok (.aload_n 0, 1) := by decide +kernel
theorem dX7_own_1 : decode cX7_own 1 = .ok (.iload_n 1, 1) := by decide +kernel
theorem dX7_own_2 : decode cX7_own 2 = .ok (.iload_n 2, 1) := by decide +kernel
theorem dX7_own_3 : decode cX7_own 3 = .ok (.iload_n 3, 1) := by decide +kernel
theorem dX7_own_4 : decode cX7_own 4 = .ok (.invokevirtual 159, 3) := by decide +kernel
theorem dX7_own_7 : decode cX7_own 7 = .ok (.ifCond .eq 8, 3) := by decide +kernel
theorem dX7_own_10 : decode cX7_own 10 = .ok (.aload_n 0, 1) := by decide +kernel
theorem dX7_own_11 : decode cX7_own 11 = .ok (.iload_n 1, 1) := by decide +kernel
theorem dX7_own_12 : decode cX7_own 12 = .ok (.invokevirtual 155, 3) := by decide +kernel
theorem dX7_own_15 : decode cX7_own 15 = .ok (.aload_n 0, 1) := by decide +kernel
theorem dX7_own_16 : decode cX7_own 16 = .ok (.getfield 62, 3) := by decide +kernel
theorem dX7_own_19 : decode cX7_own 19 = .ok (.iload_n 1, 1) := by decide +kernel
theorem dX7_own_20 : decode cX7_own 20 = .ok (.iconst (-1), 1) := by decide +kernel
theorem dX7_own_21 : decode cX7_own 21 = .ok (.iastore, 1) := by decide +kernel
theorem dX7_own_22 : decode cX7_own 22 = .ok (.return_, 1) := by decide +kernel
set_option maxRecDepth 20000 in
theorem ggX7_lie_X7_isMachine : GoodIn wsX7_lie wsX7_isMachine := goodIn_r _ [7, 8, 9, 10, 6, 11, 57, 58, 59, 60, 61, 62, 63, 64, 65, 66, 67, 68, 69, 70, 71, 72, 73, 74, 75, 76, 77, 78, 79, 80, 81, 82, 83, 84, 85, 86, 87, 88, 89, 90, 91, 92, 93, 94, 95, 96, 97] (by decide +kernel) (by decide +kernel)
set_option maxRecDepth 20000 in
theorem gX7_lie_X7_isMachine : GoodIn wsX7_lie (wsV RX7 138 RX7 yX7_isMachine wsX7_isMachine) := goodIn_app (goodIn_of _ (by decide +kernel)) ggX7_lie_X7_isMachine
set_option maxRecDepth 20000 in
theorem ggX7_lie_X7_isIn : GoodIn wsX7_lie wsX7_isIn := goodIn_r _ [11] (by decide +kernel) (by decide +kernel)
set_option maxRecDepth 20000 in
theorem gX7_lie_X7_isIn : GoodIn wsX7_lie (va_wsS RX7 122 yX7_isIn wsX7_isIn) := goodIn_app (goodIn_of _ (by decide +kernel)) ggX7_lie_X7_isIn
set_option maxRecDepth 20000 in
theorem ggX7_lie_X7_own : GoodIn wsX7_lie wsX7_own := goodIn_r _ [15, 16, 17, 18, 19, 6, 20, 21, 22, 2, 23, 24, 25, 26, 27, 28, 29, 30, 31, 32, 33, 34, 35, 36, 37, 38, 39, 40, 41, 42, 43, 44, 45, 46, 47, 48, 49, 50, 51, 52, 53, 54, 55, 56, 57, 58, 59, 60, 61, 62, 63, 64, 65, 66, 67, 68, 69, 70, 71, 72, 73, 74, 75, 76, 77, 78, 79, 80, 81, 82, 83, 84, 85, 86, 87, 88, 89, 90, 91, 92, 93, 94, 95, 96, 97] (by decide +kernel) (by decide +kernel)
set_option maxRecDepth 20000 in
theorem gX7_lie_X7_own : GoodIn wsX7_lie (wsV RX7 162 RX7 yX7_own wsX7_own) := goodIn_app (goodIn_of _ (by decide +kernel)) ggX7_lie_X7_own
theorem dX7_lie_0 : decode cX7_lie 0 = .ok (.aload_n 0, 1) := by decide +kernel
theorem dX7_lie_1 : decode cX7_lie 1 = .ok (.iload_n 1, 1) := by decide +kernel
theorem dX7_lie_2 : decode cX7_lie 2 = .ok (.invokevirtual 138, 3) := by decide +kernel
theorem dX7_lie_5 : decode cX7_lie 5 = .ok (.ifCond .eq 30, 3) := by decide +kernel
theorem dX7_lie_8 : decode cX7_lie 8 = .ok (.aload_n 0, 1) := by decide +kernel
theorem dX7_lie_9 : decode cX7_lie 9 = .ok (.getfield 32, 3) := by decide +kernel
theorem dX7_lie_12 : decode cX7_lie 12 = .ok (.iload_n 1, 1) := by decide +kernel
theorem dX7_lie_13 : decode cX7_lie 13 = .ok (.iaload, 1) := by decide +kernel
theorem dX7_lie_14 : decode cX7_lie 14 = .ok (.ifCond .eq 21, 3) := by decide +kernel
theorem dX7_lie_17 : decode cX7_lie 17 = .ok (.iload_n 2, 1) := by decide +kernel
theorem dX7_lie_18 : decode cX7_lie 18 = .ok (.iconst 1, 1) := by decide +kernel
theorem dX7_lie_19 : decode cX7_lie 19 = .ok (.iconst 1, 1) := by decide +kernel
theorem dX7_lie_20 : decode cX7_lie 20 = .ok (.aload_n 0, 1) := by decide +kernel
theorem dX7_lie_21 : decode cX7_lie 21 = .ok (.getfield 35, 3) := by decide +kernel
theorem dX7_lie_24 : decode cX7_lie 24 = .ok (.iload_n 1, 1) := by decide +kernel
theorem dX7_lie_25 : decode cX7_lie 25 = .ok (.iaload, 1) := by decide +kernel
theorem dX7_lie_26 : decode cX7_lie 26 = .ok (.ishl, 1) := by decide +kernel
theorem dX7_lie_27 : decode cX7_lie 27 = .ok (.iconst 1, 1) := by decide +kernel
theorem dX7_lie_28 : decode cX7_lie 28 = .ok (.isub, 1) := by decide +kernel
theorem dX7_lie_29 : decode cX7_lie 29 = .ok (.invokestatic 122, 3) := by decide +kernel
theorem dX7_lie_32 : decode cX7_lie 32 = .ok (.ifCond .ne 5, 3) := by decide +kernel
theorem dX7_lie_35 : decode cX7_lie 35 = .ok (.iconst 0, 1) := by decide +kernel
theorem dX7_lie_36 : decode cX7_lie 36 = .ok (.ireturn, 1) := by decide +kernel
theorem dX7_lie_37 : decode cX7_lie 37 = .ok (.aload_n 0, 1) := by decide +kernel
theorem dX7_lie_38 : decode cX7_lie 38 = .ok (.iload_n 1, 1) := by decide +kernel
theorem dX7_lie_39 : decode cX7_lie 39 = .ok (.iload_n 2, 1) := by decide +kernel
theorem dX7_lie_40 : decode cX7_lie 40 = .ok (.iload_n 3, 1) := by decide +kernel
theorem dX7_lie_41 : decode cX7_lie 41 = .ok (.invokevirtual 162, 3) := by decide +kernel
theorem dX7_lie_44 : decode cX7_lie 44 = .ok (.iconst 1, 1) := by decide +kernel
theorem dX7_lie_45 : decode cX7_lie 45 = .ok (.ireturn, 1) := by decide +kernel
set_option maxRecDepth 20000 in
theorem ggX7_cut_X7_isMachine : GoodIn wsX7_cut wsX7_isMachine := goodIn_r _ [13, 14, 15, 16, 12, 17, 31, 32, 33, 34, 35, 36, 37, 38, 39, 40, 41, 42, 43, 44, 45, 46, 47, 48, 49, 50, 51, 52, 53, 54, 55, 56, 57, 58, 59, 60, 61, 62, 63, 64, 65, 66, 67, 68, 69, 70, 71] (by decide +kernel) (by decide +kernel)
set_option maxRecDepth 20000 in
theorem gX7_cut_X7_isMachine : GoodIn wsX7_cut (wsV RX7 138 RX7 yX7_isMachine wsX7_isMachine) := goodIn_app (goodIn_of _ (by decide +kernel)) ggX7_cut_X7_isMachine
set_option maxRecDepth 20000 in
theorem ggX7_cut_X7_begin : GoodIn wsX7_cut wsX7_begin := goodIn_r _ [21, 22, 23, 24, 3, 25, 26, 27, 12, 28, 29, 30, 31, 32, 33, 34, 35, 36, 37, 38, 39, 40, 41, 42, 43, 44, 45, 46, 47, 48, 49, 50, 51, 52, 53, 54, 55, 56, 57, 58, 59, 60, 61, 62, 63, 64, 65, 66, 67, 68, 69, 70, 71] (by decide +kernel) (by decide +kernel)
set_option maxRecDepth 20000 in
theorem gX7_cut_X7_begin : GoodIn wsX7_cut (wsV RX7 134 RX7 yX7_begin wsX7_begin) := goodIn_app (goodIn_of _ (by decide +kernel)) ggX7_cut_X7_begin
theorem dX7_cut_0 : decode cX7_cut 0 = .ok (.aload_n 0, 1) := by decide +kernel
theorem dX7_cut_1 : decode cX7_cut 1 = .ok (.iload_n 1, 1) := by decide +kernel
theorem dX7_cut_2 : decode cX7_cut 2 = .ok (.invokevirtual 138, 3) := by decide +kernel
theorem dX7_cut_5 : decode cX7_cut 5 = .ok (.ifCond .ne 5, 3) := by decide +kernel
theorem dX7_cut_8 : decode cX7_cut 8 = .ok (.iconst 0, 1) := by decide +kernel
theorem dX7_cut_9 : decode cX7_cut 9 = .ok (.ireturn, 1) := by decide +kernel
theorem dX7_cut_10 : decode cX7_cut 10 = .ok (.iconst 0, 1) := by decide +kernel
theorem dX7_cut_11 : decode cX7_cut 11 = .ok (.istore_n 3, 1) := by decide +kernel
theorem dX7_cut_12 : decode cX7_cut 12 = .ok (.iload_n 3, 1) := by decide +kernel
theorem dX7_cut_13 : decode cX7_cut 13 = .ok (.bipush 12, 2) := by decide +kernel
theorem dX7_cut_15 : decode cX7_cut 15 = .ok (.if_icmp .ge 23, 3) := by decide +kernel
theorem dX7_cut_18 : decode cX7_cut 18 = .ok (.aload_n 0, 1) := by decide +kernel
theorem dX7_cut_19 : decode cX7_cut 19 = .ok (.getfield 41, 3) := by decide +kernel
theorem dX7_cut_22 : decode cX7_cut 22 = .ok (.bipush 12, 2) := by decide +kernel
theorem dX7_cut_24 : decode cX7_cut 24 = .ok (.iload_n 1, 1) := by decide +kernel
theorem dX7_cut_25 : decode cX7_cut 25 = .ok (.imul, 1) := by decide +kernel
theorem dX7_cut_26 : decode cX7_cut 26 = .ok (.iload_n 3, 1) := by decide +kernel
theorem dX7_cut_27 : decode cX7_cut 27 = .ok (.iadd, 1) := by decide +kernel
theorem dX7_cut_28 : decode cX7_cut 28 = .ok (.iaload, 1) := by decide +kernel
theorem dX7_cut_29 : decode cX7_cut 29 = .ok (.ifCond .ne 9, 3) := by decide +kernel
theorem dX7_cut_32 : decode cX7_cut 32 = .ok (.iinc 3 1, 3) := by decide +kernel
theorem dX7_cut_35 : decode cX7_cut 35 = .ok (.goto (-23), 3) := by decide +kernel
theorem dX7_cut_38 : decode cX7_cut 38 = .ok (.iload_n 2, 1) := by decide +kernel
theorem dX7_cut_39 : decode cX7_cut 39 = .ok (.ifCond .eq 33, 3) := by decide +kernel
theorem dX7_cut_42 : decode cX7_cut 42 = .ok (.iload_n 3, 1) := by decide +kernel
theorem dX7_cut_43 : decode cX7_cut 43 = .ok (.bipush 12, 2) := by decide +kernel
theorem dX7_cut_45 : decode cX7_cut 45 = .ok (.if_icmp .ge 27, 3) := by decide +kernel
theorem dX7_cut_48 : decode cX7_cut 48 = .ok (.aload_n 0, 1) := by decide +kernel
theorem dX7_cut_49 : decode cX7_cut 49 = .ok (.getfield 41, 3) := by decide +kernel
theorem dX7_cut_52 : decode cX7_cut 52 = .ok (.bipush 12, 2) := by decide +kernel
theorem dX7_cut_54 : decode cX7_cut 54 = .ok (.iload_n 1, 1) := by decide +kernel
theorem dX7_cut_55 : decode cX7_cut 55 = .ok (.imul, 1) := by decide +kernel
theorem dX7_cut_56 : decode cX7_cut 56 = .ok (.iload_n 3, 1) := by decide +kernel
theorem dX7_cut_57 : decode cX7_cut 57 = .ok (.iadd, 1) := by decide +kernel
theorem dX7_cut_58 : decode cX7_cut 58 = .ok (.iconst 0, 1) := by decide +kernel
theorem dX7_cut_59 : decode cX7_cut 59 = .ok (.iastore, 1) := by decide +kernel
theorem dX7_cut_60 : decode cX7_cut 60 = .ok (.aload_n 0, 1) := by decide +kernel
theorem dX7_cut_61 : decode cX7_cut 61 = .ok (.getfield 44, 3) := by decide +kernel
theorem dX7_cut_64 : decode cX7_cut 64 = .ok (.bipush 12, 2) := by decide +kernel
theorem dX7_cut_66 : decode cX7_cut 66 = .ok (.iload_n 1, 1) := by decide +kernel
theorem dX7_cut_67 : decode cX7_cut 67 = .ok (.imul, 1) := by decide +kernel
theorem dX7_cut_68 : decode cX7_cut 68 = .ok (.iload_n 3, 1) := by decide +kernel
theorem dX7_cut_69 : decode cX7_cut 69 = .ok (.iadd, 1) := by decide +kernel
theorem dX7_cut_70 : decode cX7_cut 70 = .ok (.iconst 0, 1) := by decide +kernel
theorem dX7_cut_71 : decode cX7_cut 71 = .ok (.iastore, 1) := by decide +kernel
theorem dX7_cut_72 : decode cX7_cut 72 = .ok (.aload_n 0, 1) := by decide +kernel
theorem dX7_cut_73 : decode cX7_cut 73 = .ok (.getfield 50, 3) := by decide +kernel
theorem dX7_cut_76 : decode cX7_cut 76 = .ok (.iload_n 1, 1) := by decide +kernel
theorem dX7_cut_77 : decode cX7_cut 77 = .ok (.aload_n 0, 1) := by decide +kernel
theorem dX7_cut_78 : decode cX7_cut 78 = .ok (.getfield 16, 3) := by decide +kernel
theorem dX7_cut_81 : decode cX7_cut 81 = .ok (.iastore, 1) := by decide +kernel
theorem dX7_cut_82 : decode cX7_cut 82 = .ok (.aload_n 0, 1) := by decide +kernel
theorem dX7_cut_83 : decode cX7_cut 83 = .ok (.iload_n 1, 1) := by decide +kernel
theorem dX7_cut_84 : decode cX7_cut 84 = .ok (.aload_n 0, 1) := by decide +kernel
theorem dX7_cut_85 : decode cX7_cut 85 = .ok (.getfield 131, 3) := by decide +kernel
theorem dX7_cut_88 : decode cX7_cut 88 = .ok (.invokevirtual 134, 3) := by decide +kernel
theorem dX7_cut_91 : decode cX7_cut 91 = .ok (.aload_n 0, 1) := by decide +kernel
theorem dX7_cut_92 : decode cX7_cut 92 = .ok (.getfield 62, 3) := by decide +kernel
theorem dX7_cut_95 : decode cX7_cut 95 = .ok (.iload_n 1, 1) := by decide +kernel
theorem dX7_cut_96 : decode cX7_cut 96 = .ok (.iconst (-1), 1) := by decide +kernel
theorem dX7_cut_97 : decode cX7_cut 97 = .ok (.iastore, 1) := by decide +kernel
theorem dX7_cut_98 : decode cX7_cut 98 = .ok (.aload_n 0, 1) := by decide +kernel
theorem dX7_cut_99 : decode cX7_cut 99 = .ok (.getfield 80, 3) := by decide +kernel
theorem dX7_cut_102 : decode cX7_cut 102 = .ok (.iload_n 1, 1) := by decide +kernel
theorem dX7_cut_103 : decode cX7_cut 103 = .ok (.iconst 0, 1) := by decide +kernel
theorem dX7_cut_104 : decode cX7_cut 104 = .ok (.iastore, 1) := by decide +kernel
theorem dX7_cut_105 : decode cX7_cut 105 = .ok (.aload_n 0, 1) := by decide +kernel
theorem dX7_cut_106 : decode cX7_cut 106 = .ok (.getfield 83, 3) := by decide +kernel
theorem dX7_cut_109 : decode cX7_cut 109 = .ok (.iload_n 1, 1) := by decide +kernel
theorem dX7_cut_110 : decode cX7_cut 110 = .ok (.iconst 0, 1) := by decide +kernel
theorem dX7_cut_111 : decode cX7_cut 111 = .ok (.iastore, 1) := by decide +kernel
theorem dX7_cut_112 : decode cX7_cut 112 = .ok (.iconst 1, 1) := by decide +kernel
theorem dX7_cut_113 : decode cX7_cut 113 = .ok (.ireturn, 1) := by decide +kernel
set_option maxRecDepth 20000 in
theorem ggX7_makeMix_X7_draw : GoodIn wsX7_makeMix wsX7_draw := goodIn_r _ [9, 10, 11, 12, 13, 14, 15, 16, 17, 18, 19, 20, 21, 22, 23, 24, 25, 26, 27, 28, 29, 30, 31, 32, 33, 34, 35, 36, 37, 38, 39, 40, 41, 42, 43, 44, 45, 46, 47, 48, 49, 50, 51, 52] (by decide +kernel) (by decide +kernel)
set_option maxRecDepth 20000 in
theorem gX7_makeMix_X7_draw : GoodIn wsX7_makeMix (wsV RX7 127 RX7 yX7_draw wsX7_draw) := goodIn_app (goodIn_of _ (by decide +kernel)) ggX7_makeMix_X7_draw
theorem dX7_makeMix_0 : decode cX7_makeMix 0 = .ok (.aload_n 0, 1) := by decide +kernel
theorem dX7_makeMix_1 : decode cX7_makeMix 1 = .ok (.sipush 4096, 3) := by decide +kernel
theorem dX7_makeMix_4 : decode cX7_makeMix 4 = .ok (.invokevirtual 127, 3) := by decide +kernel
theorem dX7_makeMix_7 : decode cX7_makeMix 7 = .ok (.istore_n 2, 1) := by decide +kernel
theorem dX7_makeMix_8 : decode cX7_makeMix 8 = .ok (.iconst 0, 1) := by decide +kernel
theorem dX7_makeMix_9 : decode cX7_makeMix 9 = .ok (.istore_n 3, 1) := by decide +kernel
theorem dX7_makeMix_10 : decode cX7_makeMix 10 = .ok (.iconst (-1), 1) := by decide +kernel
theorem dX7_makeMix_11 : decode cX7_makeMix 11 = .ok (.istore 4, 2) := by decide +kernel
theorem dX7_makeMix_13 : decode cX7_makeMix 13 = .ok (.aload_n 0, 1) := by decide +kernel
theorem dX7_makeMix_14 : decode cX7_makeMix 14 = .ok (.getfield 104, 3) := by decide +kernel
theorem dX7_makeMix_17 : decode cX7_makeMix 17 = .ok (.iload_n 1, 1) := by decide +kernel
theorem dX7_makeMix_18 : decode cX7_makeMix 18 = .ok (.iconst 0, 1) := by decide +kernel
theorem dX7_makeMix_19 : decode cX7_makeMix 19 = .ok (.iastore, 1) := by decide +kernel
theorem dX7_makeMix_20 : decode cX7_makeMix 20 = .ok (.aload_n 0, 1) := by decide +kernel
theorem dX7_makeMix_21 : decode cX7_makeMix 21 = .ok (.getfield 107, 3) := by decide +kernel
theorem dX7_makeMix_24 : decode cX7_makeMix 24 = .ok (.iload_n 1, 1) := by decide +kernel
theorem dX7_makeMix_25 : decode cX7_makeMix 25 = .ok (.iconst 0, 1) := by decide +kernel
theorem dX7_makeMix_26 : decode cX7_makeMix 26 = .ok (.iastore, 1) := by decide +kernel
theorem dX7_makeMix_27 : decode cX7_makeMix 27 = .ok (.bipush 11, 2) := by decide +kernel
theorem dX7_makeMix_29 : decode cX7_makeMix 29 = .ok (.istore 5, 2) := by decide +kernel
theorem dX7_makeMix_31 : decode cX7_makeMix 31 = .ok (.iload 5, 2) := by decide +kernel
theorem dX7_makeMix_33 : decode cX7_makeMix 33 = .ok (.ifCond .lt 90, 3) := by decide +kernel
theorem dX7_makeMix_36 : decode cX7_makeMix 36 = .ok (.aload_n 0, 1) := by decide +kernel
theorem dX7_makeMix_37 : decode cX7_makeMix 37 = .ok (.getfield 41, 3) := by decide +kernel
theorem dX7_makeMix_40 : decode cX7_makeMix 40 = .ok (.bipush 12, 2) := by decide +kernel
theorem dX7_makeMix_42 : decode cX7_makeMix 42 = .ok (.iload_n 1, 1) := by decide +kernel
theorem dX7_makeMix_43 : decode cX7_makeMix 43 = .ok (.imul, 1) := by decide +kernel
theorem dX7_makeMix_44 : decode cX7_makeMix 44 = .ok (.iload 5, 2) := by decide +kernel
theorem dX7_makeMix_46 : decode cX7_makeMix 46 = .ok (.iadd, 1) := by decide +kernel
theorem dX7_makeMix_47 : decode cX7_makeMix 47 = .ok (.iaload, 1) := by decide +kernel
theorem dX7_makeMix_48 : decode cX7_makeMix 48 = .ok (.ifCond .ne 6, 3) := by decide +kernel
theorem dX7_makeMix_51 : decode cX7_makeMix 51 = .ok (.goto 66, 3) := by decide +kernel
theorem dX7_makeMix_54 : decode cX7_makeMix 54 = .ok (.iload 4, 2) := by decide +kernel
theorem dX7_makeMix_56 : decode cX7_makeMix 56 = .ok (.ifCond .ge 7, 3) := by decide +kernel
theorem dX7_makeMix_59 : decode cX7_makeMix 59 = .ok (.iload 5, 2) := by decide +kernel
theorem dX7_makeMix_61 : decode cX7_makeMix 61 = .ok (.istore 4, 2) := by decide +kernel
theorem dX7_makeMix_63 : decode cX7_makeMix 63 = .ok (.iload_n 2, 1) := by decide +kernel
theorem dX7_makeMix_64 : decode cX7_makeMix 64 = .ok (.iload_n 3, 1) := by decide +kernel
theorem dX7_makeMix_65 : decode cX7_makeMix 65 = .ok (.ishr, 1) := by decide +kernel
theorem dX7_makeMix_66 : decode cX7_makeMix 66 = .ok (.iconst 1, 1) := by decide +kernel
theorem dX7_makeMix_67 : decode cX7_makeMix 67 = .ok (.iand, 1) := by decide +kernel
theorem dX7_makeMix_68 : decode cX7_makeMix 68 = .ok (.iconst 1, 1) := by decide +kernel
theorem dX7_makeMix_69 : decode cX7_makeMix 69 = .ok (.if_icmp .ne 45, 3) := by decide +kernel
theorem dX7_makeMix_72 : decode cX7_makeMix 72 = .ok (.aload_n 0, 1) := by decide +kernel
theorem dX7_makeMix_73 : decode cX7_makeMix 73 = .ok (.getfield 104, 3) := by decide +kernel
theorem dX7_makeMix_76 : decode cX7_makeMix 76 = .ok (.iload_n 1, 1) := by decide +kernel
theorem dX7_makeMix_77 : decode cX7_makeMix 77 = .ok (.dup2, 1) := by decide +kernel
theorem dX7_makeMix_78 : decode cX7_makeMix 78 = .ok (.iaload, 1) := by decide +kernel
theorem dX7_makeMix_79 : decode cX7_makeMix 79 = .ok (.aload_n 0, 1) := by decide +kernel
theorem dX7_makeMix_80 : decode cX7_makeMix 80 = .ok (.getfield 41, 3) := by decide +kernel
theorem dX7_makeMix_83 : decode cX7_makeMix 83 = .ok (.bipush 12, 2) := by decide +kernel
theorem dX7_makeMix_85 : decode cX7_makeMix 85 = .ok (.iload_n 1, 1) := by decide +kernel
theorem dX7_makeMix_86 : decode cX7_makeMix 86 = .ok (.imul, 1) := by decide +kernel
theorem dX7_makeMix_87 : decode cX7_makeMix 87 = .ok (.iload 5, 2) := by decide +kernel
theorem dX7_makeMix_89 : decode cX7_makeMix 89 = .ok (.iadd, 1) := by decide +kernel
theorem dX7_makeMix_90 : decode cX7_makeMix 90 = .ok (.iaload, 1) := by decide +kernel
theorem dX7_makeMix_91 : decode cX7_makeMix 91 = .ok (.ixor, 1) := by decide +kernel
theorem dX7_makeMix_92 : decode cX7_makeMix 92 = .ok (.iastore, 1) := by decide +kernel
theorem dX7_makeMix_93 : decode cX7_makeMix 93 = .ok (.aload_n 0, 1) := by decide +kernel
theorem dX7_makeMix_94 : decode cX7_makeMix 94 = .ok (.getfield 107, 3) := by decide +kernel
theorem dX7_makeMix_97 : decode cX7_makeMix 97 = .ok (.iload_n 1, 1) := by decide +kernel
theorem dX7_makeMix_98 : decode cX7_makeMix 98 = .ok (.dup2, 1) := by decide +kernel
theorem dX7_makeMix_99 : decode cX7_makeMix 99 = .ok (.iaload, 1) := by decide +kernel
theorem dX7_makeMix_100 : decode cX7_makeMix 100 = .ok (.aload_n 0, 1) := by decide +kernel
theorem dX7_makeMix_101 : decode cX7_makeMix 101 = .ok (.getfield 44, 3) := by decide +kernel
theorem dX7_makeMix_104 : decode cX7_makeMix 104 = .ok (.bipush 12, 2) := by decide +kernel
theorem dX7_makeMix_106 : decode cX7_makeMix 106 = .ok (.iload_n 1, 1) := by decide +kernel
theorem dX7_makeMix_107 : decode cX7_makeMix 107 = .ok (.imul, 1) := by decide +kernel
theorem dX7_makeMix_108 : decode cX7_makeMix 108 = .ok (.iload 5, 2) := by decide +kernel
theorem dX7_makeMix_110 : decode cX7_makeMix 110 = .ok (.iadd, 1) := by decide +kernel
theorem dX7_makeMix_111 : decode cX7_makeMix 111 = .ok (.iaload, 1) := by decide +kernel
theorem dX7_makeMix_112 : decode cX7_makeMix 112 = .ok (.ixor, 1) := by decide +kernel
theorem dX7_makeMix_113 : decode cX7_makeMix 113 = .ok (.iastore, 1) := by decide +kernel
theorem dX7_makeMix_114 : decode cX7_makeMix 114 = .ok (.iinc 3 1, 3) := by decide +kernel
theorem dX7_makeMix_117 : decode cX7_makeMix 117 = .ok (.iinc 5 (-1), 3) := by decide +kernel
theorem dX7_makeMix_120 : decode cX7_makeMix 120 = .ok (.goto (-89), 3) := by decide +kernel
theorem dX7_makeMix_123 : decode cX7_makeMix 123 = .ok (.aload_n 0, 1) := by decide +kernel
theorem dX7_makeMix_124 : decode cX7_makeMix 124 = .ok (.getfield 104, 3) := by decide +kernel
theorem dX7_makeMix_127 : decode cX7_makeMix 127 = .ok (.iload_n 1, 1) := by decide +kernel
theorem dX7_makeMix_128 : decode cX7_makeMix 128 = .ok (.iaload, 1) := by decide +kernel
theorem dX7_makeMix_129 : decode cX7_makeMix 129 = .ok (.ifCond .eq 4, 3) := by decide +kernel
theorem dX7_makeMix_132 : decode cX7_makeMix 132 = .ok (.return_, 1) := by decide +kernel
theorem dX7_makeMix_133 : decode cX7_makeMix 133 = .ok (.aload_n 0, 1) := by decide +kernel
theorem dX7_makeMix_134 : decode cX7_makeMix 134 = .ok (.getfield 104, 3) := by decide +kernel
theorem dX7_makeMix_137 : decode cX7_makeMix 137 = .ok (.iload_n 1, 1) := by decide +kernel
theorem dX7_makeMix_138 : decode cX7_makeMix 138 = .ok (.aload_n 0, 1) := by decide +kernel
theorem dX7_makeMix_139 : decode cX7_makeMix 139 = .ok (.getfield 41, 3) := by decide +kernel
theorem dX7_makeMix_142 : decode cX7_makeMix 142 = .ok (.bipush 12, 2) := by decide +kernel
theorem dX7_makeMix_144 : decode cX7_makeMix 144 = .ok (.iload_n 1, 1) := by decide +kernel
