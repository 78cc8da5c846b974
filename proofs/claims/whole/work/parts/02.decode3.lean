theorem dX6_machineOf_25 : decode cX6_machineOf 25 = .ok (.isub, 1) := by decide +kernel
theorem dX6_machineOf_26 : decode cX6_machineOf 26 = .ok (.invokevirtual 149, 3) := by decide +kernel
theorem dX6_machineOf_29 : decode cX6_machineOf 29 = .ok (.ireturn, 1) := by decide +kernel
theorem dX6_machineOf_30 : decode cX6_machineOf 30 = .ok (.aload_n 3, 1) := by decide +kernel
theorem dX6_machineOf_31 : decode cX6_machineOf 31 = .ok (.iload_n 2, 1) := by decide +kernel
theorem dX6_machineOf_32 : decode cX6_machineOf 32 = .ok (.invokevirtual 153, 3) := by decide +kernel
theorem dX6_machineOf_35 : decode cX6_machineOf 35 = .ok (.ireturn, 1) := by decide +kernel
set_option maxRecDepth 20000 in
theorem ggX6_data_X6_machineAt : GoodIn wsX6_data wsX6_machineAt := goodIn_r _ [5, 6, 7, 37, 38, 39, 40, 41, 42, 43, 44, 45, 46] (by decide +kernel) (by decide +kernel)
set_option maxRecDepth 20000 in
theorem gX6_data_X6_machineAt : GoodIn wsX6_data (wsV RX6 84 RX6 yX6_machineAt wsX6_machineAt) := goodIn_app (goodIn_of _ (by decide +kernel)) ggX6_data_X6_machineAt
set_option maxRecDepth 20000 in
theorem ggX6_data_X0_dataOfNth : GoodIn wsX6_data wsX0_dataOfNth := goodIn_r _ [12, 13, 14, 15, 16, 11, 17, 18, 47, 48, 49] (by decide +kernel) (by decide +kernel)
set_option maxRecDepth 20000 in
theorem gX6_data_X0_dataOfNth : GoodIn wsX6_data (wsV RX6 156 RX0 yX0_dataOfNth wsX0_dataOfNth) := goodIn_app (goodIn_of _ (by decide +kernel)) ggX6_data_X0_dataOfNth
theorem dX6_data_0 : decode cX6_data 0 = .ok (.aload_n 0, 1) := by decide +kernel
theorem dX6_data_1 : decode cX6_data 1 = .ok (.iload_n 1, 1) := by decide +kernel
theorem dX6_data_2 : decode cX6_data 2 = .ok (.invokevirtual 84, 3) := by decide +kernel
theorem dX6_data_5 : decode cX6_data 5 = .ok (.astore_n 3, 1) := by decide +kernel
theorem dX6_data_6 : decode cX6_data 6 = .ok (.aload_n 3, 1) := by decide +kernel
theorem dX6_data_7 : decode cX6_data 7 = .ok (.ifnonnull 7, 3) := by decide +kernel
theorem dX6_data_10 : decode cX6_data 10 = .ok (.iconst 0, 1) := by decide +kernel
theorem dX6_data_11 : decode cX6_data 11 = .ok (.goto 11, 3) := by decide +kernel
theorem dX6_data_14 : decode cX6_data 14 = .ok (.aload_n 3, 1) := by decide +kernel
theorem dX6_data_15 : decode cX6_data 15 = .ok (.getfield 109, 3) := by decide +kernel
theorem dX6_data_18 : decode cX6_data 18 = .ok (.iload_n 2, 1) := by decide +kernel
theorem dX6_data_19 : decode cX6_data 19 = .ok (.invokevirtual 156, 3) := by decide +kernel
theorem dX6_data_22 : decode cX6_data 22 = .ok (.ireturn, 1) := by decide +kernel
set_option maxRecDepth 20000 in
theorem ggX6_sum_X6_machineAt : GoodIn wsX6_sum wsX6_machineAt := goodIn_r _ [5, 6, 7, 26, 27, 28, 29, 30, 31, 32, 33, 34, 35] (by decide +kernel) (by decide +kernel)
set_option maxRecDepth 20000 in
theorem gX6_sum_X6_machineAt : GoodIn wsX6_sum (wsV RX6 84 RX6 yX6_machineAt wsX6_machineAt) := goodIn_app (goodIn_of _ (by decide +kernel)) ggX6_sum_X6_machineAt
theorem dX6_sum_0 : decode cX6_sum 0 = .ok (.aload_n 0, 1) := by decide +kernel
theorem dX6_sum_1 : decode cX6_sum 1 = .ok (.iload_n 1, 1) := by decide +kernel
theorem dX6_sum_2 : decode cX6_sum 2 = .ok (.invokevirtual 84, 3) := by decide +kernel
theorem dX6_sum_5 : decode cX6_sum 5 = .ok (.astore_n 2, 1) := by decide +kernel
theorem dX6_sum_6 : decode cX6_sum 6 = .ok (.aload_n 2, 1) := by decide +kernel
theorem dX6_sum_7 : decode cX6_sum 7 = .ok (.ifnonnull 7, 3) := by decide +kernel
theorem dX6_sum_10 : decode cX6_sum 10 = .ok (.iconst 0, 1) := by decide +kernel
theorem dX6_sum_11 : decode cX6_sum 11 = .ok (.goto 7, 3) := by decide +kernel
theorem dX6_sum_14 : decode cX6_sum 14 = .ok (.aload_n 2, 1) := by decide +kernel
theorem dX6_sum_15 : decode cX6_sum 15 = .ok (.getfield 159, 3) := by decide +kernel
theorem dX6_sum_18 : decode cX6_sum 18 = .ok (.ireturn, 1) := by decide +kernel
set_option maxRecDepth 20000 in
theorem ggX6_about_X6_lettersSent : GoodIn wsX6_about wsX6_lettersSent := goodIn_r _ [9, 1, 10, 11, 12, 8, 13, 14, 20, 21, 22, 23, 24, 25, 26, 27, 28, 29, 30, 31, 32, 33, 34, 35, 36, 37, 38, 39, 40, 41, 42, 43, 44, 45, 46, 47] (by decide +kernel) (by decide +kernel)
set_option maxRecDepth 20000 in
theorem gX6_about_X6_lettersSent : GoodIn wsX6_about (wsV RX6 162 RX6 yX6_lettersSent wsX6_lettersSent) := goodIn_app (goodIn_of _ (by decide +kernel)) ggX6_about_X6_lettersSent
set_option maxRecDepth 20000 in
theorem ggX6_about_X6_runnersOfGreatest : GoodIn wsX6_about wsX6_runnersOfGreatest := goodIn_r _ [18, 1, 19, 10, 11, 12, 8, 13, 14, 20, 21, 22, 23, 24, 25, 26, 27, 28, 29, 30, 31, 32, 33, 34, 35, 36, 37, 38, 39, 40, 41, 42, 43, 44, 45, 46, 47] (by decide +kernel) (by decide +kernel)
set_option maxRecDepth 20000 in
theorem gX6_about_X6_runnersOfGreatest : GoodIn wsX6_about (wsV RX6 166 RX6 yX6_runnersOfGreatest wsX6_runnersOfGreatest) := goodIn_app (goodIn_of _ (by decide +kernel)) ggX6_about_X6_runnersOfGreatest
theorem dX6_about_0 : decode cX6_about 0 = .ok (.iload_n 1, 1) := by decide +kernel
theorem dX6_about_1 : decode cX6_about 1 = .ok (.tableswitch 69 0 5 #[39, 44, 49, 54, 59, 64], 39) := by decide +kernel
theorem dX6_about_40 : decode cX6_about 40 = .ok (.aload_n 0, 1) := by decide +kernel
theorem dX6_about_41 : decode cX6_about 41 = .ok (.getfield 53, 3) := by decide +kernel
theorem dX6_about_44 : decode cX6_about 44 = .ok (.ireturn, 1) := by decide +kernel
theorem dX6_about_45 : decode cX6_about 45 = .ok (.aload_n 0, 1) := by decide +kernel
theorem dX6_about_46 : decode cX6_about 46 = .ok (.getfield 75, 3) := by decide +kernel
theorem dX6_about_49 : decode cX6_about 49 = .ok (.ireturn, 1) := by decide +kernel
theorem dX6_about_50 : decode cX6_about 50 = .ok (.aload_n 0, 1) := by decide +kernel
theorem dX6_about_51 : decode cX6_about 51 = .ok (.invokevirtual 162, 3) := by decide +kernel
theorem dX6_about_54 : decode cX6_about 54 = .ok (.ireturn, 1) := by decide +kernel
theorem dX6_about_55 : decode cX6_about 55 = .ok (.aload_n 0, 1) := by decide +kernel
theorem dX6_about_56 : decode cX6_about 56 = .ok (.invokevirtual 166, 3) := by decide +kernel
theorem dX6_about_59 : decode cX6_about 59 = .ok (.ireturn, 1) := by decide +kernel
theorem dX6_about_60 : decode cX6_about 60 = .ok (.aload_n 0, 1) := by decide +kernel
theorem dX6_about_61 : decode cX6_about 61 = .ok (.getfield 92, 3) := by decide +kernel
theorem dX6_about_64 : decode cX6_about 64 = .ok (.ireturn, 1) := by decide +kernel
theorem dX6_about_65 : decode cX6_about 65 = .ok (.aload_n 0, 1) := by decide +kernel
theorem dX6_about_66 : decode cX6_about 66 = .ok (.getfield 42, 3) := by decide +kernel
theorem dX6_about_69 : decode cX6_about 69 = .ok (.ireturn, 1) := by decide +kernel
theorem dX6_about_70 : decode cX6_about 70 = .ok (.iconst (-1), 1) := by decide +kernel
theorem dX6_about_71 : decode cX6_about 71 = .ok (.ireturn, 1) := by decide +kernel
theorem dX6_within_0 : decode cX6_within 0 = .ok (.iload_n 0, 1) := by decide +kernel
theorem dX6_within_1 : decode cX6_within 1 = .ok (.iload_n 1, 1) := by decide +kernel
theorem dX6_within_2 : decode cX6_within 2 = .ok (.if_icmp .lt 12, 3) := by decide +kernel
theorem dX6_within_5 : decode cX6_within 5 = .ok (.iload_n 0, 1) := by decide +kernel
theorem dX6_within_6 : decode cX6_within 6 = .ok (.iload_n 2, 1) := by decide +kernel
theorem dX6_within_7 : decode cX6_within 7 = .ok (.if_icmp .gt 7, 3) := by decide +kernel
theorem dX6_within_10 : decode cX6_within 10 = .ok (.iconst 1, 1) := by decide +kernel
theorem dX6_within_11 : decode cX6_within 11 = .ok (.goto 4, 3) := by decide +kernel
theorem dX6_within_14 : decode cX6_within 14 = .ok (.iconst 0, 1) := by decide +kernel
theorem dX6_within_15 : decode cX6_within 15 = .ok (.ireturn, 1) := by decide +kernel
theorem dX6_machineAt_0 : decode cX6_machineAt 0 = .ok (.iload_n 1, 1) := by decide +kernel
theorem dX6_machineAt_1 : decode cX6_machineAt 1 = .ok (.ifCond .lt 20, 3) := by decide +kernel
theorem dX6_machineAt_4 : decode cX6_machineAt 4 = .ok (.iload_n 1, 1) := by decide +kernel
theorem dX6_machineAt_5 : decode cX6_machineAt 5 = .ok (.aload_n 0, 1) := by decide +kernel
theorem dX6_machineAt_6 : decode cX6_machineAt 6 = .ok (.getfield 53, 3) := by decide +kernel
theorem dX6_machineAt_9 : decode cX6_machineAt 9 = .ok (.if_icmp .ge 12, 3) := by decide +kernel
theorem dX6_machineAt_12 : decode cX6_machineAt 12 = .ok (.iload_n 1, 1) := by decide +kernel
theorem dX6_machineAt_13 : decode cX6_machineAt 13 = .ok (.aload_n 0, 1) := by decide +kernel
theorem dX6_machineAt_14 : decode cX6_machineAt 14 = .ok (.getfield 25, 3) := by decide +kernel
theorem dX6_machineAt_17 : decode cX6_machineAt 17 = .ok (.arraylength, 1) := by decide +kernel
theorem dX6_machineAt_18 : decode cX6_machineAt 18 = .ok (.if_icmp .lt 5, 3) := by decide +kernel
theorem dX6_machineAt_21 : decode cX6_machineAt 21 = .ok (.aconst_null, 1) := by decide +kernel
theorem dX6_machineAt_22 : decode cX6_machineAt 22 = .ok (.areturn, 1) := by decide +kernel
theorem dX6_machineAt_23 : decode cX6_machineAt 23 = .ok (.aload_n 0, 1) := by decide +kernel
theorem dX6_machineAt_24 : decode cX6_machineAt 24 = .ok (.getfield 25, 3) := by decide +kernel
theorem dX6_machineAt_27 : decode cX6_machineAt 27 = .ok (.iload_n 1, 1) := by decide +kernel
theorem dX6_machineAt_28 : decode cX6_machineAt 28 = .ok (.aaload, 1) := by decide +kernel
theorem dX6_machineAt_29 : decode cX6_machineAt 29 = .ok (.areturn, 1) := by decide +kernel
set_option maxRecDepth 20000 in
theorem ggX6_pairOf_X6_within : GoodIn wsX6_pairOf wsX6_within := goodIn_r _ [5] (by decide +kernel) (by decide +kernel)
set_option maxRecDepth 20000 in
theorem gX6_pairOf_X6_within : GoodIn wsX6_pairOf (va_wsS RX6 49 yX6_within wsX6_within) := goodIn_app (goodIn_of _ (by decide +kernel)) ggX6_pairOf_X6_within
theorem dX6_pairOf_0 : decode cX6_pairOf 0 = .ok (.iload_n 1, 1) := by decide +kernel
theorem dX6_pairOf_1 : decode cX6_pairOf 1 = .ok (.bipush 12, 2) := by decide +kernel
theorem dX6_pairOf_3 : decode cX6_pairOf 3 = .ok (.imul, 1) := by decide +kernel
theorem dX6_pairOf_4 : decode cX6_pairOf 4 = .ok (.iload_n 2, 1) := by decide +kernel
theorem dX6_pairOf_5 : decode cX6_pairOf 5 = .ok (.iadd, 1) := by decide +kernel
theorem dX6_pairOf_6 : decode cX6_pairOf 6 = .ok (.istore_n 3, 1) := by decide +kernel
theorem dX6_pairOf_7 : decode cX6_pairOf 7 = .ok (.iload_n 3, 1) := by decide +kernel
theorem dX6_pairOf_8 : decode cX6_pairOf 8 = .ok (.iconst 0, 1) := by decide +kernel
theorem dX6_pairOf_9 : decode cX6_pairOf 9 = .ok (.aload_n 0, 1) := by decide +kernel
theorem dX6_pairOf_10 : decode cX6_pairOf 10 = .ok (.getfield 29, 3) := by decide +kernel
theorem dX6_pairOf_13 : decode cX6_pairOf 13 = .ok (.arraylength, 1) := by decide +kernel
theorem dX6_pairOf_14 : decode cX6_pairOf 14 = .ok (.iconst 1, 1) := by decide +kernel
theorem dX6_pairOf_15 : decode cX6_pairOf 15 = .ok (.isub, 1) := by decide +kernel
theorem dX6_pairOf_16 : decode cX6_pairOf 16 = .ok (.invokestatic 49, 3) := by decide +kernel
theorem dX6_pairOf_19 : decode cX6_pairOf 19 = .ok (.ifCond .eq 7, 3) := by decide +kernel
theorem dX6_pairOf_22 : decode cX6_pairOf 22 = .ok (.iload_n 3, 1) := by decide +kernel
theorem dX6_pairOf_23 : decode cX6_pairOf 23 = .ok (.goto 4, 3) := by decide +kernel
theorem dX6_pairOf_26 : decode cX6_pairOf 26 = .ok (.iconst (-1), 1) := by decide +kernel
theorem dX6_pairOf_27 : decode cX6_pairOf 27 = .ok (.ireturn, 1) := by decide +kernel
set_option maxRecDepth 20000 in
theorem ggX6_oddsBetween_X6_pairOf : GoodIn wsX6_oddsBetween wsX6_pairOf := goodIn_r _ [6, 1, 7, 8, 5, 9, 10, 11, 12, 13, 14, 15, 16, 17, 18, 19] (by decide +kernel) (by decide +kernel)
set_option maxRecDepth 20000 in
theorem gX6_oddsBetween_X6_pairOf : GoodIn wsX6_oddsBetween (wsV RX6 88 RX6 yX6_pairOf wsX6_pairOf) := goodIn_app (goodIn_of _ (by decide +kernel)) ggX6_oddsBetween_X6_pairOf
theorem dX6_oddsBetween_0 : decode cX6_oddsBetween 0 = .ok (.aload_n 0, 1) := by decide +kernel
theorem dX6_oddsBetween_1 : decode cX6_oddsBetween 1 = .ok (.iload_n 1, 1) := by decide +kernel
theorem dX6_oddsBetween_2 : decode cX6_oddsBetween 2 = .ok (.iload_n 2, 1) := by decide +kernel
theorem dX6_oddsBetween_3 : decode cX6_oddsBetween 3 = .ok (.invokevirtual 88, 3) := by decide +kernel
theorem dX6_oddsBetween_6 : decode cX6_oddsBetween 6 = .ok (.istore_n 3, 1) := by decide +kernel
theorem dX6_oddsBetween_7 : decode cX6_oddsBetween 7 = .ok (.iload_n 3, 1) := by decide +kernel
theorem dX6_oddsBetween_8 : decode cX6_oddsBetween 8 = .ok (.iconst (-1), 1) := by decide +kernel
theorem dX6_oddsBetween_9 : decode cX6_oddsBetween 9 = .ok (.if_icmp .ne 7, 3) := by decide +kernel
theorem dX6_oddsBetween_12 : decode cX6_oddsBetween 12 = .ok (.iconst (-1), 1) := by decide +kernel
theorem dX6_oddsBetween_13 : decode cX6_oddsBetween 13 = .ok (.goto 9, 3) := by decide +kernel
theorem dX6_oddsBetween_16 : decode cX6_oddsBetween 16 = .ok (.aload_n 0, 1) := by decide +kernel
theorem dX6_oddsBetween_17 : decode cX6_oddsBetween 17 = .ok (.getfield 29, 3) := by decide +kernel
theorem dX6_oddsBetween_20 : decode cX6_oddsBetween 20 = .ok (.iload_n 3, 1) := by decide +kernel
theorem dX6_oddsBetween_21 : decode cX6_oddsBetween 21 = .ok (.iaload, 1) := by decide +kernel
theorem dX6_oddsBetween_22 : decode cX6_oddsBetween 22 = .ok (.ireturn, 1) := by decide +kernel
set_option maxRecDepth 20000 in
theorem ggX6_sendLetters_X6_machineAt : GoodIn wsX6_sendLetters wsX6_machineAt := goodIn_r _ [7, 1, 8, 60, 61, 62, 63, 64, 65, 66, 67, 68, 69] (by decide +kernel) (by decide +kernel)
set_option maxRecDepth 20000 in
theorem gX6_sendLetters_X6_machineAt : GoodIn wsX6_sendLetters (wsV RX6 84 RX6 yX6_machineAt wsX6_machineAt) := goodIn_app (goodIn_of _ (by decide +kernel)) ggX6_sendLetters_X6_machineAt
set_option maxRecDepth 20000 in
theorem ggX6_sendLetters_X4_send : GoodIn wsX6_sendLetters wsX4_send := goodIn_r _ [13, 14, 15, 16, 17, 18, 19, 20, 21, 22, 23, 24, 25, 26, 27, 28, 29, 30, 31, 32, 33, 34, 35, 36, 37, 38, 39, 40, 41, 42, 43, 44, 45, 46, 47, 48, 49, 50, 51, 52, 53, 12, 54, 55, 56, 57, 58, 59, 70, 71, 72, 73, 74, 75, 76, 77, 78, 79, 80, 81, 82, 83, 84, 85, 86, 87, 88, 89, 90, 91, 92, 93, 94, 95, 96, 97, 98, 99, 100, 101, 102, 103, 104, 105, 106, 107, 108] (by decide +kernel) (by decide +kernel)
set_option maxRecDepth 20000 in
theorem gX6_sendLetters_X4_send : GoodIn wsX6_sendLetters (wsV RX6 169 RX4 yX4_send wsX4_send) := goodIn_app (goodIn_of _ (by decide +kernel)) ggX6_sendLetters_X4_send
theorem dX6_sendLetters_0 : decode cX6_sendLetters 0 = .ok (.iconst 0, 1) := by decide +kernel
theorem dX6_sendLetters_1 : decode cX6_sendLetters 1 = .ok (.istore_n 1, 1) := by decide +kernel
theorem dX6_sendLetters_2 : decode cX6_sendLetters 2 = .ok (.iload_n 1, 1) := by decide +kernel
theorem dX6_sendLetters_3 : decode cX6_sendLetters 3 = .ok (.aload_n 0, 1) := by decide +kernel
theorem dX6_sendLetters_4 : decode cX6_sendLetters 4 = .ok (.getfield 53, 3) := by decide +kernel
theorem dX6_sendLetters_7 : decode cX6_sendLetters 7 = .ok (.if_icmp .ge 27, 3) := by decide +kernel
theorem dX6_sendLetters_10 : decode cX6_sendLetters 10 = .ok (.aload_n 0, 1) := by decide +kernel
theorem dX6_sendLetters_11 : decode cX6_sendLetters 11 = .ok (.iload_n 1, 1) := by decide +kernel
theorem dX6_sendLetters_12 : decode cX6_sendLetters 12 = .ok (.invokevirtual 84, 3) := by decide +kernel
theorem dX6_sendLetters_15 : decode cX6_sendLetters 15 = .ok (.astore_n 2, 1) := by decide +kernel
theorem dX6_sendLetters_16 : decode cX6_sendLetters 16 = .ok (.aload_n 2, 1) := by decide +kernel
theorem dX6_sendLetters_17 : decode cX6_sendLetters 17 = .ok (.ifnull 11, 3) := by decide +kernel
theorem dX6_sendLetters_20 : decode cX6_sendLetters 20 = .ok (.aload_n 2, 1) := by decide +kernel
theorem dX6_sendLetters_21 : decode cX6_sendLetters 21 = .ok (.aload_n 0, 1) := by decide +kernel
theorem dX6_sendLetters_22 : decode cX6_sendLetters 22 = .ok (.getfield 75, 3) := by decide +kernel
theorem dX6_sendLetters_25 : decode cX6_sendLetters 25 = .ok (.invokevirtual 169, 3) := by decide +kernel
theorem dX6_sendLetters_28 : decode cX6_sendLetters 28 = .ok (.iinc 1 1, 3) := by decide +kernel
theorem dX6_sendLetters_31 : decode cX6_sendLetters 31 = .ok (.goto (-29), 3) := by decide +kernel
theorem dX6_sendLetters_34 : decode cX6_sendLetters 34 = .ok (.return_, 1) := by decide +kernel
set_option maxRecDepth 20000 in
theorem ggX6_hearLetters_X6_machineAt : GoodIn wsX6_hearLetters wsX6_machineAt := goodIn_r _ [6, 1, 7, 38, 39, 40, 41, 42, 43, 44, 45, 46, 47] (by decide +kernel) (by decide +kernel)
set_option maxRecDepth 20000 in
theorem gX6_hearLetters_X6_machineAt : GoodIn wsX6_hearLetters (wsV RX6 84 RX6 yX6_machineAt wsX6_machineAt) := goodIn_app (goodIn_of _ (by decide +kernel)) ggX6_hearLetters_X6_machineAt
set_option maxRecDepth 20000 in
theorem ggX6_hearLetters_X3_isSent : GoodIn wsX6_hearLetters wsX3_isSent := goodIn_r _ [12, 13, 66, 67, 68, 69, 70, 71, 72, 73, 74] (by decide +kernel) (by decide +kernel)
set_option maxRecDepth 20000 in
theorem gX6_hearLetters_X3_isSent : GoodIn wsX6_hearLetters (wsV RX6 179 RX3 yX3_isSent wsX3_isSent) := goodIn_app (goodIn_of _ (by decide +kernel)) ggX6_hearLetters_X3_isSent
set_option maxRecDepth 20000 in
theorem ggX6_hearLetters_X6_listen : GoodIn wsX6_hearLetters wsX6_listen := goodIn_r _ [17, 1, 18, 2, 3, 4, 5, 6, 7, 19, 20, 21, 22, 23, 24, 25, 26, 27, 28, 29, 30, 8, 9, 10, 11, 12, 13, 31, 32, 33, 34, 35, 36, 37, 38, 39, 40, 41, 42, 43, 44, 45, 46, 47, 48, 49, 50, 51, 52, 53, 54, 55, 56, 57, 58, 59, 60, 61, 62, 63, 64, 65, 66, 67, 68, 69, 70, 71, 72, 73, 74, 75] (by decide +kernel) (by decide +kernel)
set_option maxRecDepth 20000 in
theorem gX6_hearLetters_X6_listen : GoodIn wsX6_hearLetters (wsV RX6 185 RX6 yX6_listen wsX6_listen) := goodIn_app (goodIn_of _ (by decide +kernel)) ggX6_hearLetters_X6_listen
theorem dX6_hearLetters_0 : decode cX6_hearLetters 0 = .ok (.iconst 0, 1) := by decide +kernel
theorem dX6_hearLetters_1 : decode cX6_hearLetters 1 = .ok (.istore_n 1, 1) := by decide +kernel
theorem dX6_hearLetters_2 : decode cX6_hearLetters 2 = .ok (.iload_n 1, 1) := by decide +kernel
theorem dX6_hearLetters_3 : decode cX6_hearLetters 3 = .ok (.aload_n 0, 1) := by decide +kernel
theorem dX6_hearLetters_4 : decode cX6_hearLetters 4 = .ok (.getfield 53, 3) := by decide +kernel
theorem dX6_hearLetters_7 : decode cX6_hearLetters 7 = .ok (.if_icmp .ge 40, 3) := by decide +kernel
theorem dX6_hearLetters_10 : decode cX6_hearLetters 10 = .ok (.aload_n 0, 1) := by decide +kernel
theorem dX6_hearLetters_11 : decode cX6_hearLetters 11 = .ok (.iload_n 1, 1) := by decide +kernel
theorem dX6_hearLetters_12 : decode cX6_hearLetters 12 = .ok (.invokevirtual 84, 3) := by decide +kernel
theorem dX6_hearLetters_15 : decode cX6_hearLetters 15 = .ok (.astore_n 2, 1) := by decide +kernel
theorem dX6_hearLetters_16 : decode cX6_hearLetters 16 = .ok (.aload_n 2, 1) := by decide +kernel
theorem dX6_hearLetters_17 : decode cX6_hearLetters 17 = .ok (.ifnull 24, 3) := by decide +kernel
theorem dX6_hearLetters_20 : decode cX6_hearLetters 20 = .ok (.aload_n 2, 1) := by decide +kernel
theorem dX6_hearLetters_21 : decode cX6_hearLetters 21 = .ok (.aconst_null, 1) := by decide +kernel
theorem dX6_hearLetters_22 : decode cX6_hearLetters 22 = .ok (.putfield 172, 3) := by decide +kernel
theorem dX6_hearLetters_25 : decode cX6_hearLetters 25 = .ok (.aload_n 2, 1) := by decide +kernel
theorem dX6_hearLetters_26 : decode cX6_hearLetters 26 = .ok (.getfield 176, 3) := by decide +kernel
theorem dX6_hearLetters_29 : decode cX6_hearLetters 29 = .ok (.invokevirtual 179, 3) := by decide +kernel
theorem dX6_hearLetters_32 : decode cX6_hearLetters 32 = .ok (.ifCond .ne 9, 3) := by decide +kernel
theorem dX6_hearLetters_35 : decode cX6_hearLetters 35 = .ok (.aload_n 0, 1) := by decide +kernel
theorem dX6_hearLetters_36 : decode cX6_hearLetters 36 = .ok (.aload_n 2, 1) := by decide +kernel
theorem dX6_hearLetters_37 : decode cX6_hearLetters 37 = .ok (.iload_n 1, 1) := by decide +kernel
theorem dX6_hearLetters_38 : decode cX6_hearLetters 38 = .ok (.invokevirtual 185, 3) := by decide +kernel
theorem dX6_hearLetters_41 : decode cX6_hearLetters 41 = .ok (.iinc 1 1, 3) := by decide +kernel
theorem dX6_hearLetters_44 : decode cX6_hearLetters 44 = .ok (.goto (-42), 3) := by decide +kernel
theorem dX6_hearLetters_47 : decode cX6_hearLetters 47 = .ok (.return_, 1) := by decide +kernel
set_option maxRecDepth 20000 in
theorem ggX6_listen_X6_machineAt : GoodIn wsX6_listen wsX6_machineAt := goodIn_r _ [7, 1, 8, 34, 35, 36, 37, 38, 39, 40, 41, 42, 43] (by decide +kernel) (by decide +kernel)
set_option maxRecDepth 20000 in
theorem gX6_listen_X6_machineAt : GoodIn wsX6_listen (wsV RX6 84 RX6 yX6_machineAt wsX6_machineAt) := goodIn_app (goodIn_of _ (by decide +kernel)) ggX6_listen_X6_machineAt
set_option maxRecDepth 20000 in
theorem ggX6_listen_X6_oddsBetween : GoodIn wsX6_listen wsX6_oddsBetween := goodIn_r _ [12, 13, 14, 15, 16, 6, 17, 18, 19, 20, 34, 35, 36, 37, 38, 39, 40, 41, 42, 43] (by decide +kernel) (by decide +kernel)
set_option maxRecDepth 20000 in
theorem gX6_listen_X6_oddsBetween : GoodIn wsX6_listen (wsV RX6 189 RX6 yX6_oddsBetween wsX6_oddsBetween) := goodIn_app (goodIn_of _ (by decide +kernel)) ggX6_listen_X6_oddsBetween
set_option maxRecDepth 20000 in
theorem ggX6_listen_X3_isSent : GoodIn wsX6_listen wsX3_isSent := goodIn_r _ [25, 26, 62, 63, 64, 65, 66, 67, 68, 69, 70] (by decide +kernel) (by decide +kernel)
set_option maxRecDepth 20000 in
theorem gX6_listen_X3_isSent : GoodIn wsX6_listen (wsV RX6 179 RX3 yX3_isSent wsX3_isSent) := goodIn_app (goodIn_of _ (by decide +kernel)) ggX6_listen_X3_isSent
set_option maxRecDepth 20000 in
theorem ggX6_listen_X1_below : GoodIn wsX6_listen wsX1_below := goodIn_r _ [31, 32, 33, 71] (by decide +kernel) (by decide +kernel)
set_option maxRecDepth 20000 in
theorem gX6_listen_X1_below : GoodIn wsX6_listen (wsV RX6 195 RX1 yX1_below wsX1_below) := goodIn_app (goodIn_of _ (by decide +kernel)) ggX6_listen_X1_below
theorem dX6_listen_0 : decode cX6_listen 0 = .ok (.aconst_null, 1) := by decide +kernel
theorem dX6_listen_1 : decode cX6_listen 1 = .ok (.astore_n 3, 1) := by decide +kernel
theorem dX6_listen_2 : decode cX6_listen 2 = .ok (.iconst (-1), 1) := by decide +kernel
theorem dX6_listen_3 : decode cX6_listen 3 = .ok (.istore 4, 2) := by decide +kernel
theorem dX6_listen_5 : decode cX6_listen 5 = .ok (.iconst 0, 1) := by decide +kernel
theorem dX6_listen_6 : decode cX6_listen 6 = .ok (.istore 5, 2) := by decide +kernel
theorem dX6_listen_8 : decode cX6_listen 8 = .ok (.iconst 0, 1) := by decide +kernel
theorem dX6_listen_9 : decode cX6_listen 9 = .ok (.istore 6, 2) := by decide +kernel
theorem dX6_listen_11 : decode cX6_listen 11 = .ok (.iload 6, 2) := by decide +kernel
theorem dX6_listen_13 : decode cX6_listen 13 = .ok (.aload_n 0, 1) := by decide +kernel
theorem dX6_listen_14 : decode cX6_listen 14 = .ok (.getfield 53, 3) := by decide +kernel
theorem dX6_listen_17 : decode cX6_listen 17 = .ok (.if_icmp .ge 61, 3) := by decide +kernel
theorem dX6_listen_20 : decode cX6_listen 20 = .ok (.aload_n 0, 1) := by decide +kernel
theorem dX6_listen_21 : decode cX6_listen 21 = .ok (.iload 6, 2) := by decide +kernel
theorem dX6_listen_23 : decode cX6_listen 23 = .ok (.invokevirtual 84, 3) := by decide +kernel
theorem dX6_listen_26 : decode cX6_listen 26 = .ok (.astore 7, 2) := by decide +kernel
theorem dX6_listen_28 : decode cX6_listen 28 = .ok (.aload_n 0, 1) := by decide +kernel
theorem dX6_listen_29 : decode cX6_listen 29 = .ok (.iload_n 2, 1) := by decide +kernel
theorem dX6_listen_30 : decode cX6_listen 30 = .ok (.iload 6, 2) := by decide +kernel
theorem dX6_listen_32 : decode cX6_listen 32 = .ok (.invokevirtual 189, 3) := by decide +kernel
theorem dX6_listen_35 : decode cX6_listen 35 = .ok (.istore 8, 2) := by decide +kernel
theorem dX6_listen_37 : decode cX6_listen 37 = .ok (.aload 7, 2) := by decide +kernel
theorem dX6_listen_39 : decode cX6_listen 39 = .ok (.ifnull 33, 3) := by decide +kernel
theorem dX6_listen_42 : decode cX6_listen 42 = .ok (.aload 7, 2) := by decide +kernel
theorem dX6_listen_44 : decode cX6_listen 44 = .ok (.getfield 176, 3) := by decide +kernel
theorem dX6_listen_47 : decode cX6_listen 47 = .ok (.invokevirtual 179, 3) := by decide +kernel
theorem dX6_listen_50 : decode cX6_listen 50 = .ok (.ifCond .eq 22, 3) := by decide +kernel
theorem dX6_listen_53 : decode cX6_listen 53 = .ok (.iload 8, 2) := by decide +kernel
theorem dX6_listen_55 : decode cX6_listen 55 = .ok (.iconst (-1), 1) := by decide +kernel
theorem dX6_listen_56 : decode cX6_listen 56 = .ok (.if_icmp .eq 16, 3) := by decide +kernel
theorem dX6_listen_59 : decode cX6_listen 59 = .ok (.aload 7, 2) := by decide +kernel
theorem dX6_listen_61 : decode cX6_listen 61 = .ok (.getfield 176, 3) := by decide +kernel
theorem dX6_listen_64 : decode cX6_listen 64 = .ok (.astore_n 3, 1) := by decide +kernel
theorem dX6_listen_65 : decode cX6_listen 65 = .ok (.iload 8, 2) := by decide +kernel
theorem dX6_listen_67 : decode cX6_listen 67 = .ok (.istore 4, 2) := by decide +kernel
theorem dX6_listen_69 : decode cX6_listen 69 = .ok (.iinc 5 1, 3) := by decide +kernel
theorem dX6_listen_72 : decode cX6_listen 72 = .ok (.iinc 6 1, 3) := by decide +kernel
theorem dX6_listen_75 : decode cX6_listen 75 = .ok (.goto (-64), 3) := by decide +kernel
theorem dX6_listen_78 : decode cX6_listen 78 = .ok (.iload 5, 2) := by decide +kernel
theorem dX6_listen_80 : decode cX6_listen 80 = .ok (.iconst 1, 1) := by decide +kernel
theorem dX6_listen_81 : decode cX6_listen 81 = .ok (.if_icmp .le 16, 3) := by decide +kernel
theorem dX6_listen_84 : decode cX6_listen 84 = .ok (.aload_n 1, 1) := by decide +kernel
theorem dX6_listen_85 : decode cX6_listen 85 = .ok (.dup, 1) := by decide +kernel
theorem dX6_listen_86 : decode cX6_listen 86 = .ok (.getfield 192, 3) := by decide +kernel
theorem dX6_listen_89 : decode cX6_listen 89 = .ok (.iconst 1, 1) := by decide +kernel
theorem dX6_listen_90 : decode cX6_listen 90 = .ok (.iadd, 1) := by decide +kernel
theorem dX6_listen_91 : decode cX6_listen 91 = .ok (.putfield 192, 3) := by decide +kernel
theorem dX6_listen_94 : decode cX6_listen 94 = .ok (.goto 41, 3) := by decide +kernel
theorem dX6_listen_97 : decode cX6_listen 97 = .ok (.iload 5, 2) := by decide +kernel
theorem dX6_listen_99 : decode cX6_listen 99 = .ok (.iconst 1, 1) := by decide +kernel
theorem dX6_listen_100 : decode cX6_listen 100 = .ok (.if_icmp .ne 30, 3) := by decide +kernel
theorem dX6_listen_103 : decode cX6_listen 103 = .ok (.aload_n 0, 1) := by decide +kernel
theorem dX6_listen_104 : decode cX6_listen 104 = .ok (.getfield 10, 3) := by decide +kernel
theorem dX6_listen_107 : decode cX6_listen 107 = .ok (.bipush 100, 2) := by decide +kernel
theorem dX6_listen_109 : decode cX6_listen 109 = .ok (.invokevirtual 195, 3) := by decide +kernel
theorem dX6_listen_112 : decode cX6_listen 112 = .ok (.iload 4, 2) := by decide +kernel
theorem dX6_listen_114 : decode cX6_listen 114 = .ok (.if_icmp .ge 16, 3) := by decide +kernel
theorem dX6_listen_117 : decode cX6_listen 117 = .ok (.aload_n 1, 1) := by decide +kernel
theorem dX6_listen_118 : decode cX6_listen 118 = .ok (.dup, 1) := by decide +kernel
theorem dX6_listen_119 : decode cX6_listen 119 = .ok (.getfield 198, 3) := by decide +kernel
theorem dX6_listen_122 : decode cX6_listen 122 = .ok (.iconst 1, 1) := by decide +kernel
theorem dX6_listen_123 : decode cX6_listen 123 = .ok (.iadd, 1) := by decide +kernel
theorem dX6_listen_124 : decode cX6_listen 124 = .ok (.putfield 198, 3) := by decide +kernel
theorem dX6_listen_127 : decode cX6_listen 127 = .ok (.goto 8, 3) := by decide +kernel
theorem dX6_listen_130 : decode cX6_listen 130 = .ok (.aload_n 1, 1) := by decide +kernel
theorem dX6_listen_131 : decode cX6_listen 131 = .ok (.aload_n 3, 1) := by decide +kernel
theorem dX6_listen_132 : decode cX6_listen 132 = .ok (.putfield 172, 3) := by decide +kernel
theorem dX6_listen_135 : decode cX6_listen 135 = .ok (.return_, 1) := by decide +kernel
set_option maxRecDepth 20000 in
theorem ggX6_letLettersWork_X6_machineAt : GoodIn wsX6_letLettersWork wsX6_machineAt := goodIn_r _ [7, 1, 8, 92, 93, 94, 95, 96, 97, 98, 99, 100, 101] (by decide +kernel) (by decide +kernel)
set_option maxRecDepth 20000 in
theorem gX6_letLettersWork_X6_machineAt : GoodIn wsX6_letLettersWork (wsV RX6 84 RX6 yX6_machineAt wsX6_machineAt) := goodIn_app (goodIn_of _ (by decide +kernel)) ggX6_letLettersWork_X6_machineAt
set_option maxRecDepth 20000 in
theorem ggX6_letLettersWork_X4_take : GoodIn wsX6_letLettersWork wsX4_take := goodIn_r _ [13, 14, 15, 16, 12, 17, 18, 19, 20, 21, 22, 23, 24, 25, 26, 27, 28, 29, 30, 31, 32, 33, 34, 35, 36, 37, 38, 39, 40, 41, 42, 43, 44, 45, 46, 47, 48, 49, 50, 51, 52, 53, 54, 55, 56, 57, 58, 59, 60, 61, 62, 63, 64, 65, 66, 67, 68, 69, 70, 71, 72, 73, 74, 75, 76, 77, 78, 79, 80, 81, 82, 83, 84, 85, 86, 87, 88, 89, 90, 91, 120, 121, 122, 123, 124, 125, 126, 127, 128, 102, 103, 104, 105, 106, 107, 108, 109, 110, 111, 112, 113, 114, 115, 116, 117, 118, 119, 129, 130, 131, 132, 133, 134, 135, 136, 137, 138, 139, 140] (by decide +kernel) (by decide +kernel)
set_option maxRecDepth 20000 in
theorem gX6_letLettersWork_X4_take : GoodIn wsX6_letLettersWork (wsV RX6 201 RX4 yX4_take wsX4_take) := goodIn_app (goodIn_of _ (by decide +kernel)) ggX6_letLettersWork_X4_take
theorem dX6_letLettersWork_0 : decode cX6_letLettersWork 0 = .ok (.iconst 0, 1) := by decide +kernel
theorem dX6_letLettersWork_1 : decode cX6_letLettersWork 1 = .ok (.istore_n 1, 1) := by decide +kernel
theorem dX6_letLettersWork_2 : decode cX6_letLettersWork 2 = .ok (.iload_n 1, 1) := by decide +kernel
theorem dX6_letLettersWork_3 : decode cX6_letLettersWork 3 = .ok (.aload_n 0, 1) := by decide +kernel
theorem dX6_letLettersWork_4 : decode cX6_letLettersWork 4 = .ok (.getfield 53, 3) := by decide +kernel
theorem dX6_letLettersWork_7 : decode cX6_letLettersWork 7 = .ok (.if_icmp .ge 38, 3) := by decide +kernel
theorem dX6_letLettersWork_10 : decode cX6_letLettersWork 10 = .ok (.aload_n 0, 1) := by decide +kernel
theorem dX6_letLettersWork_11 : decode cX6_letLettersWork 11 = .ok (.iload_n 1, 1) := by decide +kernel
theorem dX6_letLettersWork_12 : decode cX6_letLettersWork 12 = .ok (.invokevirtual 84, 3) := by decide +kernel
theorem dX6_letLettersWork_15 : decode cX6_letLettersWork 15 = .ok (.astore_n 2, 1) := by decide +kernel
theorem dX6_letLettersWork_16 : decode cX6_letLettersWork 16 = .ok (.aload_n 2, 1) := by decide +kernel
theorem dX6_letLettersWork_17 : decode cX6_letLettersWork 17 = .ok (.ifnull 22, 3) := by decide +kernel
theorem dX6_letLettersWork_20 : decode cX6_letLettersWork 20 = .ok (.aload_n 2, 1) := by decide +kernel
theorem dX6_letLettersWork_21 : decode cX6_letLettersWork 21 = .ok (.getfield 172, 3) := by decide +kernel
theorem dX6_letLettersWork_24 : decode cX6_letLettersWork 24 = .ok (.ifnull 15, 3) := by decide +kernel
theorem dX6_letLettersWork_27 : decode cX6_letLettersWork 27 = .ok (.aload_n 2, 1) := by decide +kernel
theorem dX6_letLettersWork_28 : decode cX6_letLettersWork 28 = .ok (.aload_n 2, 1) := by decide +kernel
theorem dX6_letLettersWork_29 : decode cX6_letLettersWork 29 = .ok (.getfield 172, 3) := by decide +kernel
theorem dX6_letLettersWork_32 : decode cX6_letLettersWork 32 = .ok (.aload_n 0, 1) := by decide +kernel
theorem dX6_letLettersWork_33 : decode cX6_letLettersWork 33 = .ok (.getfield 75, 3) := by decide +kernel
theorem dX6_letLettersWork_36 : decode cX6_letLettersWork 36 = .ok (.invokevirtual 201, 3) := by decide +kernel
theorem dX6_letLettersWork_39 : decode cX6_letLettersWork 39 = .ok (.iinc 1 1, 3) := by decide +kernel
theorem dX6_letLettersWork_42 : decode cX6_letLettersWork 42 = .ok (.goto (-40), 3) := by decide +kernel
theorem dX6_letLettersWork_45 : decode cX6_letLettersWork 45 = .ok (.return_, 1) := by decide +kernel
set_option maxRecDepth 20000 in
theorem ggX6_endTick_X6_machineAt : GoodIn wsX6_endTick wsX6_machineAt := goodIn_r _ [7, 1, 8, 51, 52, 53, 54, 55, 56, 57, 58, 59, 60] (by decide +kernel) (by decide +kernel)
set_option maxRecDepth 20000 in
theorem gX6_endTick_X6_machineAt : GoodIn wsX6_endTick (wsV RX6 84 RX6 yX6_machineAt wsX6_machineAt) := goodIn_app (goodIn_of _ (by decide +kernel)) ggX6_endTick_X6_machineAt
set_option maxRecDepth 20000 in
theorem ggX6_endTick_X4_end : GoodIn wsX6_endTick wsX4_end := goodIn_r _ [13, 14, 15, 16, 17, 18, 19, 20, 21, 22, 23, 24, 25, 26, 27, 28, 29, 30, 31, 32, 33, 34, 35, 36, 37, 38, 39, 40, 41, 42, 12, 43, 44, 45, 46, 47, 48, 49, 50, 61, 62, 63, 64, 65, 66, 67, 68, 69, 70, 71, 72, 73, 74, 75, 76, 77, 78, 79, 80, 81, 82, 83, 84, 85, 86, 87, 88, 89, 90] (by decide +kernel) (by decide +kernel)
set_option maxRecDepth 20000 in
theorem gX6_endTick_X4_end : GoodIn wsX6_endTick (wsV RX6 205 RX4 yX4_end wsX4_end) := goodIn_app (goodIn_of _ (by decide +kernel)) ggX6_endTick_X4_end
theorem dX6_endTick_0 : decode cX6_endTick 0 = .ok (.iconst 0, 1) := by decide +kernel
theorem dX6_endTick_1 : decode cX6_endTick 1 = .ok (.istore_n 1, 1) := by decide +kernel
theorem dX6_endTick_2 : decode cX6_endTick 2 = .ok (.iload_n 1, 1) := by decide +kernel
theorem dX6_endTick_3 : decode cX6_endTick 3 = .ok (.aload_n 0, 1) := by decide +kernel
theorem dX6_endTick_4 : decode cX6_endTick 4 = .ok (.getfield 53, 3) := by decide +kernel
theorem dX6_endTick_7 : decode cX6_endTick 7 = .ok (.if_icmp .ge 27, 3) := by decide +kernel
theorem dX6_endTick_10 : decode cX6_endTick 10 = .ok (.aload_n 0, 1) := by decide +kernel
theorem dX6_endTick_11 : decode cX6_endTick 11 = .ok (.iload_n 1, 1) := by decide +kernel
theorem dX6_endTick_12 : decode cX6_endTick 12 = .ok (.invokevirtual 84, 3) := by decide +kernel
theorem dX6_endTick_15 : decode cX6_endTick 15 = .ok (.astore_n 2, 1) := by decide +kernel
theorem dX6_endTick_16 : decode cX6_endTick 16 = .ok (.aload_n 2, 1) := by decide +kernel
theorem dX6_endTick_17 : decode cX6_endTick 17 = .ok (.ifnull 11, 3) := by decide +kernel
theorem dX6_endTick_20 : decode cX6_endTick 20 = .ok (.aload_n 2, 1) := by decide +kernel
theorem dX6_endTick_21 : decode cX6_endTick 21 = .ok (.aload_n 0, 1) := by decide +kernel
theorem dX6_endTick_22 : decode cX6_endTick 22 = .ok (.getfield 75, 3) := by decide +kernel
theorem dX6_endTick_25 : decode cX6_endTick 25 = .ok (.invokevirtual 205, 3) := by decide +kernel
theorem dX6_endTick_28 : decode cX6_endTick 28 = .ok (.iinc 1 1, 3) := by decide +kernel
theorem dX6_endTick_31 : decode cX6_endTick 31 = .ok (.goto (-29), 3) := by decide +kernel
theorem dX6_endTick_34 : decode cX6_endTick 34 = .ok (.return_, 1) := by decide +kernel
set_option maxRecDepth 20000 in
theorem ggX6_noteAllWhole_X6_machineAt : GoodIn wsX6_noteAllWhole wsX6_machineAt := goodIn_r _ [9, 3, 10, 23, 24, 25, 26, 27, 28, 29, 30, 31, 32] (by decide +kernel) (by decide +kernel)
set_option maxRecDepth 20000 in
theorem gX6_noteAllWhole_X6_machineAt : GoodIn wsX6_noteAllWhole (wsV RX6 84 RX6 yX6_machineAt wsX6_machineAt) := goodIn_app (goodIn_of _ (by decide +kernel)) ggX6_noteAllWhole_X6_machineAt
set_option maxRecDepth 20000 in
theorem ggX6_noteAllWhole_X4_isWholeOf : GoodIn wsX6_noteAllWhole wsX4_isWholeOf := goodIn_r _ [15, 16, 17, 18, 19, 14, 20, 21, 22, 33, 34, 35, 36, 37, 38, 39, 40, 41, 42, 43, 44, 45, 46, 47, 48, 49, 50, 51, 52, 53] (by decide +kernel) (by decide +kernel)
set_option maxRecDepth 20000 in
theorem gX6_noteAllWhole_X4_isWholeOf : GoodIn wsX6_noteAllWhole (wsV RX6 208 RX4 yX4_isWholeOf wsX4_isWholeOf) := goodIn_app (goodIn_of _ (by decide +kernel)) ggX6_noteAllWhole_X4_isWholeOf
theorem dX6_noteAllWhole_0 : decode cX6_noteAllWhole 0 = .ok (.aload_n 0, 1) := by decide +kernel
theorem dX6_noteAllWhole_1 : decode cX6_noteAllWhole 1 = .ok (.getfield 42, 3) := by decide +kernel
theorem dX6_noteAllWhole_4 : decode cX6_noteAllWhole 4 = .ok (.iconst (-1), 1) := by decide +kernel
theorem dX6_noteAllWhole_5 : decode cX6_noteAllWhole 5 = .ok (.if_icmp .ne 10, 3) := by decide +kernel
theorem dX6_noteAllWhole_8 : decode cX6_noteAllWhole 8 = .ok (.aload_n 0, 1) := by decide +kernel
theorem dX6_noteAllWhole_9 : decode cX6_noteAllWhole 9 = .ok (.getfield 106, 3) := by decide +kernel
theorem dX6_noteAllWhole_12 : decode cX6_noteAllWhole 12 = .ok (.ifCond .ne 4, 3) := by decide +kernel
theorem dX6_noteAllWhole_15 : decode cX6_noteAllWhole 15 = .ok (.return_, 1) := by decide +kernel
theorem dX6_noteAllWhole_16 : decode cX6_noteAllWhole 16 = .ok (.iconst 0, 1) := by decide +kernel
theorem dX6_noteAllWhole_17 : decode cX6_noteAllWhole 17 = .ok (.istore_n 1, 1) := by decide +kernel
theorem dX6_noteAllWhole_18 : decode cX6_noteAllWhole 18 = .ok (.iload_n 1, 1) := by decide +kernel
theorem dX6_noteAllWhole_19 : decode cX6_noteAllWhole 19 = .ok (.aload_n 0, 1) := by decide +kernel
theorem dX6_noteAllWhole_20 : decode cX6_noteAllWhole 20 = .ok (.getfield 53, 3) := by decide +kernel
theorem dX6_noteAllWhole_23 : decode cX6_noteAllWhole 23 = .ok (.if_icmp .ge 31, 3) := by decide +kernel
theorem dX6_noteAllWhole_26 : decode cX6_noteAllWhole 26 = .ok (.aload_n 0, 1) := by decide +kernel
theorem dX6_noteAllWhole_27 : decode cX6_noteAllWhole 27 = .ok (.iload_n 1, 1) := by decide +kernel
theorem dX6_noteAllWhole_28 : decode cX6_noteAllWhole 28 = .ok (.invokevirtual 84, 3) := by decide +kernel
theorem dX6_noteAllWhole_31 : decode cX6_noteAllWhole 31 = .ok (.astore_n 2, 1) := by decide +kernel
theorem dX6_noteAllWhole_32 : decode cX6_noteAllWhole 32 = .ok (.aload_n 2, 1) := by decide +kernel
theorem dX6_noteAllWhole_33 : decode cX6_noteAllWhole 33 = .ok (.ifnull 14, 3) := by decide +kernel
theorem dX6_noteAllWhole_36 : decode cX6_noteAllWhole 36 = .ok (.aload_n 2, 1) := by decide +kernel
theorem dX6_noteAllWhole_37 : decode cX6_noteAllWhole 37 = .ok (.aload_n 0, 1) := by decide +kernel
theorem dX6_noteAllWhole_38 : decode cX6_noteAllWhole 38 = .ok (.getfield 106, 3) := by decide +kernel
theorem dX6_noteAllWhole_41 : decode cX6_noteAllWhole 41 = .ok (.invokevirtual 208, 3) := by decide +kernel
theorem dX6_noteAllWhole_44 : decode cX6_noteAllWhole 44 = .ok (.ifCond .ne 4, 3) := by decide +kernel
theorem dX6_noteAllWhole_47 : decode cX6_noteAllWhole 47 = .ok (.return_, 1) := by decide +kernel
theorem dX6_noteAllWhole_48 : decode cX6_noteAllWhole 48 = .ok (.iinc 1 1, 3) := by decide +kernel
theorem dX6_noteAllWhole_51 : decode cX6_noteAllWhole 51 = .ok (.goto (-33), 3) := by decide +kernel
theorem dX6_noteAllWhole_54 : decode cX6_noteAllWhole 54 = .ok (.aload_n 0, 1) := by decide +kernel
theorem dX6_noteAllWhole_55 : decode cX6_noteAllWhole 55 = .ok (.aload_n 0, 1) := by decide +kernel
theorem dX6_noteAllWhole_56 : decode cX6_noteAllWhole 56 = .ok (.getfield 75, 3) := by decide +kernel
theorem dX6_noteAllWhole_59 : decode cX6_noteAllWhole 59 = .ok (.putfield 42, 3) := by decide +kernel
theorem dX6_noteAllWhole_62 : decode cX6_noteAllWhole 62 = .ok (.return_, 1) := by decide +kernel
set_option maxRecDepth 20000 in
theorem ggX6_lettersSent_X6_machineAt : GoodIn wsX6_lettersSent wsX6_machineAt := goodIn_r _ [6, 1, 7, 8, 9, 10, 11, 12, 13, 14, 15, 16, 17] (by decide +kernel) (by decide +kernel)
set_option maxRecDepth 20000 in
theorem gX6_lettersSent_X6_machineAt : GoodIn wsX6_lettersSent (wsV RX6 84 RX6 yX6_machineAt wsX6_machineAt) := goodIn_app (goodIn_of _ (by decide +kernel)) ggX6_lettersSent_X6_machineAt
theorem dX6_lettersSent_0 : decode cX6_lettersSent 0 = .ok (.iconst 0, 1) := by decide +kernel
theorem dX6_lettersSent_1 : decode cX6_lettersSent 1 = .ok (.istore_n 1, 1) := by decide +kernel
theorem dX6_lettersSent_2 : decode cX6_lettersSent 2 = .ok (.iconst 0, 1) := by decide +kernel
theorem dX6_lettersSent_3 : decode cX6_lettersSent 3 = .ok (.istore_n 2, 1) := by decide +kernel
theorem dX6_lettersSent_4 : decode cX6_lettersSent 4 = .ok (.iload_n 2, 1) := by decide +kernel
theorem dX6_lettersSent_5 : decode cX6_lettersSent 5 = .ok (.aload_n 0, 1) := by decide +kernel
theorem dX6_lettersSent_6 : decode cX6_lettersSent 6 = .ok (.getfield 53, 3) := by decide +kernel
theorem dX6_lettersSent_9 : decode cX6_lettersSent 9 = .ok (.if_icmp .ge 31, 3) := by decide +kernel
theorem dX6_lettersSent_12 : decode cX6_lettersSent 12 = .ok (.aload_n 0, 1) := by decide +kernel
theorem dX6_lettersSent_13 : decode cX6_lettersSent 13 = .ok (.iload_n 2, 1) := by decide +kernel
theorem dX6_lettersSent_14 : decode cX6_lettersSent 14 = .ok (.invokevirtual 84, 3) := by decide +kernel
theorem dX6_lettersSent_17 : decode cX6_lettersSent 17 = .ok (.astore_n 3, 1) := by decide +kernel
theorem dX6_lettersSent_18 : decode cX6_lettersSent 18 = .ok (.aload_n 3, 1) := by decide +kernel
theorem dX6_lettersSent_19 : decode cX6_lettersSent 19 = .ok (.ifnull 15, 3) := by decide +kernel
theorem dX6_lettersSent_22 : decode cX6_lettersSent 22 = .ok (.iload_n 1, 1) := by decide +kernel
theorem dX6_lettersSent_23 : decode cX6_lettersSent 23 = .ok (.aload_n 3, 1) := by decide +kernel
theorem dX6_lettersSent_24 : decode cX6_lettersSent 24 = .ok (.getfield 212, 3) := by decide +kernel
theorem dX6_lettersSent_27 : decode cX6_lettersSent 27 = .ok (.aload_n 3, 1) := by decide +kernel
theorem dX6_lettersSent_28 : decode cX6_lettersSent 28 = .ok (.getfield 215, 3) := by decide +kernel
theorem dX6_lettersSent_31 : decode cX6_lettersSent 31 = .ok (.iadd, 1) := by decide +kernel
theorem dX6_lettersSent_32 : decode cX6_lettersSent 32 = .ok (.iadd, 1) := by decide +kernel
theorem dX6_lettersSent_33 : decode cX6_lettersSent 33 = .ok (.istore_n 1, 1) := by decide +kernel
theorem dX6_lettersSent_34 : decode cX6_lettersSent 34 = .ok (.iinc 2 1, 3) := by decide +kernel
theorem dX6_lettersSent_37 : decode cX6_lettersSent 37 = .ok (.goto (-33), 3) := by decide +kernel
theorem dX6_lettersSent_40 : decode cX6_lettersSent 40 = .ok (.iload_n 1, 1) := by decide +kernel
theorem dX6_lettersSent_41 : decode cX6_lettersSent 41 = .ok (.ireturn, 1) := by decide +kernel
set_option maxRecDepth 20000 in
theorem ggX6_runnersOfGreatest_X6_machineAt : GoodIn wsX6_runnersOfGreatest wsX6_machineAt := goodIn_r _ [7, 1, 8, 9, 10, 11, 12, 13, 14, 15, 16, 17, 18] (by decide +kernel) (by decide +kernel)
set_option maxRecDepth 20000 in
theorem gX6_runnersOfGreatest_X6_machineAt : GoodIn wsX6_runnersOfGreatest (wsV RX6 84 RX6 yX6_machineAt wsX6_machineAt) := goodIn_app (goodIn_of _ (by decide +kernel)) ggX6_runnersOfGreatest_X6_machineAt
theorem dX6_runnersOfGreatest_0 : decode cX6_runnersOfGreatest 0 = .ok (.iconst 0, 1) := by decide +kernel
theorem dX6_runnersOfGreatest_1 : decode cX6_runnersOfGreatest 1 = .ok (.istore_n 1, 1) := by decide +kernel
theorem dX6_runnersOfGreatest_2 : decode cX6_runnersOfGreatest 2 = .ok (.iconst 0, 1) := by decide +kernel
theorem dX6_runnersOfGreatest_3 : decode cX6_runnersOfGreatest 3 = .ok (.istore_n 2, 1) := by decide +kernel
theorem dX6_runnersOfGreatest_4 : decode cX6_runnersOfGreatest 4 = .ok (.iload_n 2, 1) := by decide +kernel
theorem dX6_runnersOfGreatest_5 : decode cX6_runnersOfGreatest 5 = .ok (.aload_n 0, 1) := by decide +kernel
theorem dX6_runnersOfGreatest_6 : decode cX6_runnersOfGreatest 6 = .ok (.getfield 53, 3) := by decide +kernel
theorem dX6_runnersOfGreatest_9 : decode cX6_runnersOfGreatest 9 = .ok (.if_icmp .ge 40, 3) := by decide +kernel
theorem dX6_runnersOfGreatest_12 : decode cX6_runnersOfGreatest 12 = .ok (.aload_n 0, 1) := by decide +kernel
theorem dX6_runnersOfGreatest_13 : decode cX6_runnersOfGreatest 13 = .ok (.iload_n 2, 1) := by decide +kernel
theorem dX6_runnersOfGreatest_14 : decode cX6_runnersOfGreatest 14 = .ok (.invokevirtual 84, 3) := by decide +kernel
theorem dX6_runnersOfGreatest_17 : decode cX6_runnersOfGreatest 17 = .ok (.astore_n 3, 1) := by decide +kernel
theorem dX6_runnersOfGreatest_18 : decode cX6_runnersOfGreatest 18 = .ok (.aload_n 3, 1) := by decide +kernel
theorem dX6_runnersOfGreatest_19 : decode cX6_runnersOfGreatest 19 = .ok (.ifnull 24, 3) := by decide +kernel
theorem dX6_runnersOfGreatest_22 : decode cX6_runnersOfGreatest 22 = .ok (.aload_n 0, 1) := by decide +kernel
theorem dX6_runnersOfGreatest_23 : decode cX6_runnersOfGreatest 23 = .ok (.getfield 106, 3) := by decide +kernel
theorem dX6_runnersOfGreatest_26 : decode cX6_runnersOfGreatest 26 = .ok (.ifCond .eq 17, 3) := by decide +kernel
theorem dX6_runnersOfGreatest_29 : decode cX6_runnersOfGreatest 29 = .ok (.aload_n 3, 1) := by decide +kernel
theorem dX6_runnersOfGreatest_30 : decode cX6_runnersOfGreatest 30 = .ok (.getfield 218, 3) := by decide +kernel
theorem dX6_runnersOfGreatest_33 : decode cX6_runnersOfGreatest 33 = .ok (.aload_n 0, 1) := by decide +kernel
theorem dX6_runnersOfGreatest_34 : decode cX6_runnersOfGreatest 34 = .ok (.getfield 106, 3) := by decide +kernel
theorem dX6_runnersOfGreatest_37 : decode cX6_runnersOfGreatest 37 = .ok (.if_icmp .ne 6, 3) := by decide +kernel
theorem dX6_runnersOfGreatest_40 : decode cX6_runnersOfGreatest 40 = .ok (.iinc 1 1, 3) := by decide +kernel
theorem dX6_runnersOfGreatest_43 : decode cX6_runnersOfGreatest 43 = .ok (.iinc 2 1, 3) := by decide +kernel
theorem dX6_runnersOfGreatest_46 : decode cX6_runnersOfGreatest 46 = .ok (.goto (-42), 3) := by decide +kernel
theorem dX6_runnersOfGreatest_49 : decode cX6_runnersOfGreatest 49 = .ok (.iload_n 1, 1) := by decide +kernel
theorem dX6_runnersOfGreatest_50 : decode cX6_runnersOfGreatest 50 = .ok (.ireturn, 1) := by decide +kernel
theorem dX7_init_0 : decode cX7_init 0 = .ok (.aload_n 0, 1) := by decide +kernel
theorem dX7_init_1 : decode cX7_init 1 = .ok (.invokespecial 1, 3) := by decide +kernel
theorem dX7_init_4 : decode cX7_init 4 = .ok (.aload_n 0, 1) := by decide +kernel
theorem dX7_init_5 : decode cX7_init 5 = .ok (.iconst 1, 1) := by decide +kernel
theorem dX7_init_6 : decode cX7_init 6 = .ok (.putfield 7, 3) := by decide +kernel
theorem dX7_init_9 : decode cX7_init 9 = .ok (.aload_n 0, 1) := by decide +kernel
theorem dX7_init_10 : decode cX7_init 10 = .ok (.iconst 2, 1) := by decide +kernel
theorem dX7_init_11 : decode cX7_init 11 = .ok (.putfield 13, 3) := by decide +kernel
theorem dX7_init_14 : decode cX7_init 14 = .ok (.aload_n 0, 1) := by decide +kernel
theorem dX7_init_15 : decode cX7_init 15 = .ok (.iconst 4, 1) := by decide +kernel
theorem dX7_init_16 : decode cX7_init 16 = .ok (.putfield 16, 3) := by decide +kernel
theorem dX7_init_19 : decode cX7_init 19 = .ok (.aload_n 0, 1) := by decide +kernel
theorem dX7_init_20 : decode cX7_init 20 = .ok (.bipush 64, 2) := by decide +kernel
theorem dX7_init_22 : decode cX7_init 22 = .ok (.putfield 19, 3) := by decide +kernel
theorem dX7_init_25 : decode cX7_init 25 = .ok (.aload_n 0, 1) := by decide +kernel
theorem dX7_init_26 : decode cX7_init 26 = .ok (.bipush 6, 2) := by decide +kernel
theorem dX7_init_28 : decode cX7_init 28 = .ok (.putfield 22, 3) := by decide +kernel
theorem dX7_init_31 : decode cX7_init 31 = .ok (.aload_n 0, 1) := by decide +kernel
theorem dX7_init_32 : decode cX7_init 32 = .ok (.bipush 12, 2) := by decide +kernel
theorem dX7_init_34 : decode cX7_init 34 = .ok (.newarray .int, 2) := by decide +kernel
theorem dX7_init_36 : decode cX7_init 36 = .ok (.putfield 25, 3) := by decide +kernel
theorem dX7_init_39 : decode cX7_init 39 = .ok (.aload_n 0, 1) := by decide +kernel
theorem dX7_init_40 : decode cX7_init 40 = .ok (.sipush 144, 3) := by decide +kernel
theorem dX7_init_43 : decode cX7_init 43 = .ok (.newarray .int, 2) := by decide +kernel
theorem dX7_init_45 : decode cX7_init 45 = .ok (.putfield 29, 3) := by decide +kernel
theorem dX7_init_48 : decode cX7_init 48 = .ok (.aload_n 0, 1) := by decide +kernel
theorem dX7_init_49 : decode cX7_init 49 = .ok (.bipush 12, 2) := by decide +kernel
theorem dX7_init_51 : decode cX7_init 51 = .ok (.newarray .int, 2) := by decide +kernel
theorem dX7_init_53 : decode cX7_init 53 = .ok (.putfield 32, 3) := by decide +kernel
theorem dX7_init_56 : decode cX7_init 56 = .ok (.aload_n 0, 1) := by decide +kernel
theorem dX7_init_57 : decode cX7_init 57 = .ok (.bipush 12, 2) := by decide +kernel
theorem dX7_init_59 : decode cX7_init 59 = .ok (.newarray .int, 2) := by decide +kernel
theorem dX7_init_61 : decode cX7_init 61 = .ok (.putfield 35, 3) := by decide +kernel
theorem dX7_init_64 : decode cX7_init 64 = .ok (.aload_n 0, 1) := by decide +kernel
theorem dX7_init_65 : decode cX7_init 65 = .ok (.bipush 12, 2) := by decide +kernel
theorem dX7_init_67 : decode cX7_init 67 = .ok (.newarray .int, 2) := by decide +kernel
theorem dX7_init_69 : decode cX7_init 69 = .ok (.putfield 38, 3) := by decide +kernel
theorem dX7_init_72 : decode cX7_init 72 = .ok (.aload_n 0, 1) := by decide +kernel
theorem dX7_init_73 : decode cX7_init 73 = .ok (.sipush 144, 3) := by decide +kernel
theorem dX7_init_76 : decode cX7_init 76 = .ok (.newarray .int, 2) := by decide +kernel
theorem dX7_init_78 : decode cX7_init 78 = .ok (.putfield 41, 3) := by decide +kernel
theorem dX7_init_81 : decode cX7_init 81 = .ok (.aload_n 0, 1) := by decide +kernel
theorem dX7_init_82 : decode cX7_init 82 = .ok (.sipush 144, 3) := by decide +kernel
theorem dX7_init_85 : decode cX7_init 85 = .ok (.newarray .int, 2) := by decide +kernel
theorem dX7_init_87 : decode cX7_init 87 = .ok (.putfield 44, 3) := by decide +kernel
theorem dX7_init_90 : decode cX7_init 90 = .ok (.aload_n 0, 1) := by decide +kernel
theorem dX7_init_91 : decode cX7_init 91 = .ok (.bipush 12, 2) := by decide +kernel
theorem dX7_init_93 : decode cX7_init 93 = .ok (.newarray .int, 2) := by decide +kernel
theorem dX7_init_95 : decode cX7_init 95 = .ok (.putfield 47, 3) := by decide +kernel
theorem dX7_init_98 : decode cX7_init 98 = .ok (.aload_n 0, 1) := by decide +kernel
theorem dX7_init_99 : decode cX7_init 99 = .ok (.bipush 12, 2) := by decide +kernel
theorem dX7_init_101 : decode cX7_init 101 = .ok (.newarray .int, 2) := by decide +kernel
theorem dX7_init_103 : decode cX7_init 103 = .ok (.putfield 50, 3) := by decide +kernel
theorem dX7_init_106 : decode cX7_init 106 = .ok (.aload_n 0, 1) := by decide +kernel
theorem dX7_init_107 : decode cX7_init 107 = .ok (.bipush 12, 2) := by decide +kernel
theorem dX7_init_109 : decode cX7_init 109 = .ok (.newarray .int, 2) := by decide +kernel
theorem dX7_init_111 : decode cX7_init 111 = .ok (.putfield 53, 3) := by decide +kernel
theorem dX7_init_114 : decode cX7_init 114 = .ok (.aload_n 0, 1) := by decide +kernel
theorem dX7_init_115 : decode cX7_init 115 = .ok (.bipush 12, 2) := by decide +kernel
theorem dX7_init_117 : decode cX7_init 117 = .ok (.newarray .int, 2) := by decide +kernel
theorem dX7_init_119 : decode cX7_init 119 = .ok (.putfield 56, 3) := by decide +kernel
theorem dX7_init_122 : decode cX7_init 122 = .ok (.aload_n 0, 1) := by decide +kernel
theorem dX7_init_123 : decode cX7_init 123 = .ok (.bipush 12, 2) := by decide +kernel
theorem dX7_init_125 : decode cX7_init 125 = .ok (.newarray .int, 2) := by decide +kernel
theorem dX7_init_127 : decode cX7_init 127 = .ok (.putfield 59, 3) := by decide +kernel
theorem dX7_init_130 : decode cX7_init 130 = .ok (.aload_n 0, 1) := by decide +kernel
theorem dX7_init_131 : decode cX7_init 131 = .ok (.bipush 12, 2) := by decide +kernel
theorem dX7_init_133 : decode cX7_init 133 = .ok (.newarray .int, 2) := by decide +kernel
theorem dX7_init_135 : decode cX7_init 135 = .ok (.putfield 62, 3) := by decide +kernel
theorem dX7_init_138 : decode cX7_init 138 = .ok (.aload_n 0, 1) := by decide +kernel
theorem dX7_init_139 : decode cX7_init 139 = .ok (.bipush 12, 2) := by decide +kernel
theorem dX7_init_141 : decode cX7_init 141 = .ok (.newarray .int, 2) := by decide +kernel
theorem dX7_init_143 : decode cX7_init 143 = .ok (.putfield 65, 3) := by decide +kernel
theorem dX7_init_146 : decode cX7_init 146 = .ok (.aload_n 0, 1) := by decide +kernel
theorem dX7_init_147 : decode cX7_init 147 = .ok (.bipush 12, 2) := by decide +kernel
theorem dX7_init_149 : decode cX7_init 149 = .ok (.newarray .int, 2) := by decide +kernel
theorem dX7_init_151 : decode cX7_init 151 = .ok (.putfield 68, 3) := by decide +kernel
theorem dX7_init_154 : decode cX7_init 154 = .ok (.aload_n 0, 1) := by decide +kernel
theorem dX7_init_155 : decode cX7_init 155 = .ok (.bipush 12, 2) := by decide +kernel
theorem dX7_init_157 : decode cX7_init 157 = .ok (.newarray .int, 2) := by decide +kernel
theorem dX7_init_159 : decode cX7_init 159 = .ok (.putfield 71, 3) := by decide +kernel
theorem dX7_init_162 : decode cX7_init 162 = .ok (.aload_n 0, 1) := by decide +kernel
theorem dX7_init_163 : decode cX7_init 163 = .ok (.bipush 12, 2) := by decide +kernel
theorem dX7_init_165 : decode cX7_init 165 = .ok (.newarray .int, 2) := by decide +kernel
theorem dX7_init_167 : decode cX7_init 167 = .ok (.putfield 74, 3) := by decide +kernel
theorem dX7_init_170 : decode cX7_init 170 = .ok (.aload_n 0, 1) := by decide +kernel
theorem dX7_init_171 : decode cX7_init 171 = .ok (.bipush 12, 2) := by decide +kernel
theorem dX7_init_173 : decode cX7_init 173 = .ok (.newarray .int, 2) := by decide +kernel
theorem dX7_init_175 : decode cX7_init 175 = .ok (.putfield 77, 3) := by decide +kernel
theorem dX7_init_178 : decode cX7_init 178 = .ok (.aload_n 0, 1) := by decide +kernel
theorem dX7_init_179 : decode cX7_init 179 = .ok (.bipush 12, 2) := by decide +kernel
theorem dX7_init_181 : decode cX7_init 181 = .ok (.newarray .int, 2) := by decide +kernel
theorem dX7_init_183 : decode cX7_init 183 = .ok (.putfield 80, 3) := by decide +kernel
theorem dX7_init_186 : decode cX7_init 186 = .ok (.aload_n 0, 1) := by decide +kernel
theorem dX7_init_187 : decode cX7_init 187 = .ok (.bipush 12, 2) := by decide +kernel
theorem dX7_init_189 : decode cX7_init 189 = .ok (.newarray .int, 2) := by decide +kernel
theorem dX7_init_191 : decode cX7_init 191 = .ok (.putfield 83, 3) := by decide +kernel
theorem dX7_init_194 : decode cX7_init 194 = .ok (.aload_n 0, 1) := by decide +kernel
theorem dX7_init_195 : decode cX7_init 195 = .ok (.iconst (-1), 1) := by decide +kernel
theorem dX7_init_196 : decode cX7_init 196 = .ok (.putfield 86, 3) := by decide +kernel
theorem dX7_init_199 : decode cX7_init 199 = .ok (.aload_n 0, 1) := by decide +kernel
theorem dX7_init_200 : decode cX7_init 200 = .ok (.bipush 12, 2) := by decide +kernel
theorem dX7_init_202 : decode cX7_init 202 = .ok (.newarray .int, 2) := by decide +kernel
theorem dX7_init_204 : decode cX7_init 204 = .ok (.putfield 89, 3) := by decide +kernel
theorem dX7_init_207 : decode cX7_init 207 = .ok (.aload_n 0, 1) := by decide +kernel
theorem dX7_init_208 : decode cX7_init 208 = .ok (.bipush 12, 2) := by decide +kernel
theorem dX7_init_210 : decode cX7_init 210 = .ok (.newarray .int, 2) := by decide +kernel
theorem dX7_init_212 : decode cX7_init 212 = .ok (.putfield 92, 3) := by decide +kernel
theorem dX7_init_215 : decode cX7_init 215 = .ok (.aload_n 0, 1) := by decide +kernel
theorem dX7_init_216 : decode cX7_init 216 = .ok (.bipush 12, 2) := by decide +kernel
theorem dX7_init_218 : decode cX7_init 218 = .ok (.newarray .int, 2) := by decide +kernel
theorem dX7_init_220 : decode cX7_init 220 = .ok (.putfield 95, 3) := by decide +kernel
theorem dX7_init_223 : decode cX7_init 223 = .ok (.aload_n 0, 1) := by decide +kernel
theorem dX7_init_224 : decode cX7_init 224 = .ok (.bipush 12, 2) := by decide +kernel
theorem dX7_init_226 : decode cX7_init 226 = .ok (.newarray .int, 2) := by decide +kernel
theorem dX7_init_228 : decode cX7_init 228 = .ok (.putfield 98, 3) := by decide +kernel
theorem dX7_init_231 : decode cX7_init 231 = .ok (.aload_n 0, 1) := by decide +kernel
theorem dX7_init_232 : decode cX7_init 232 = .ok (.bipush 12, 2) := by decide +kernel
theorem dX7_init_234 : decode cX7_init 234 = .ok (.newarray .int, 2) := by decide +kernel
theorem dX7_init_236 : decode cX7_init 236 = .ok (.putfield 101, 3) := by decide +kernel
theorem dX7_init_239 : decode cX7_init 239 = .ok (.aload_n 0, 1) := by decide +kernel
theorem dX7_init_240 : decode cX7_init 240 = .ok (.bipush 12, 2) := by decide +kernel
theorem dX7_init_242 : decode cX7_init 242 = .ok (.newarray .int, 2) := by decide +kernel
theorem dX7_init_244 : decode cX7_init 244 = .ok (.putfield 104, 3) := by decide +kernel
theorem dX7_init_247 : decode cX7_init 247 = .ok (.aload_n 0, 1) := by decide +kernel
theorem dX7_init_248 : decode cX7_init 248 = .ok (.bipush 12, 2) := by decide +kernel
theorem dX7_init_250 : decode cX7_init 250 = .ok (.newarray .int, 2) := by decide +kernel
theorem dX7_init_252 : decode cX7_init 252 = .ok (.putfield 107, 3) := by decide +kernel
theorem dX7_init_255 : decode cX7_init 255 = .ok (.aload_n 0, 1) := by decide +kernel
theorem dX7_init_256 : decode cX7_init 256 = .ok (.bipush 12, 2) := by decide +kernel
theorem dX7_init_258 : decode cX7_init 258 = .ok (.newarray .int, 2) := by decide +kernel
theorem dX7_init_260 : decode cX7_init 260 = .ok (.putfield 110, 3) := by decide +kernel
theorem dX7_init_263 : decode cX7_init 263 = .ok (.aload_n 0, 1) := by decide +kernel
theorem dX7_init_264 : decode cX7_init 264 = .ok (.bipush 12, 2) := by decide +kernel
theorem dX7_init_266 : decode cX7_init 266 = .ok (.newarray .int, 2) := by decide +kernel
theorem dX7_init_268 : decode cX7_init 268 = .ok (.putfield 113, 3) := by decide +kernel
theorem dX7_init_271 : decode cX7_init 271 = .ok (.aload_n 0, 1) := by decide +kernel
theorem dX7_init_272 : decode cX7_init 272 = .ok (.bipush 12, 2) := by decide +kernel
theorem dX7_init_274 : decode cX7_init 274 = .ok (.newarray .int, 2) := by decide +kernel
theorem dX7_init_276 : decode cX7_init 276 = .ok (.putfield 116, 3) := by decide +kernel
theorem dX7_init_279 : decode cX7_init 279 = .ok (.iconst 0, 1) := by decide +kernel
theorem dX7_init_280 : decode cX7_init 280 = .ok (.istore_n 1, 1) := by decide +kernel
theorem dX7_init_281 : decode cX7_init 281 = .ok (.iload_n 1, 1) := by decide +kernel
theorem dX7_init_282 : decode cX7_init 282 = .ok (.sipush 144, 3) := by decide +kernel
theorem dX7_init_285 : decode cX7_init 285 = .ok (.if_icmp .ge 16, 3) := by decide +kernel
theorem dX7_init_288 : decode cX7_init 288 = .ok (.aload_n 0, 1) := by decide +kernel
theorem dX7_init_289 : decode cX7_init 289 = .ok (.getfield 29, 3) := by decide +kernel
theorem dX7_init_292 : decode cX7_init 292 = .ok (.iload_n 1, 1) := by decide +kernel
theorem dX7_init_293 : decode cX7_init 293 = .ok (.iconst (-1), 1) := by decide +kernel
theorem dX7_init_294 : decode cX7_init 294 = .ok (.iastore, 1) := by decide +kernel
theorem dX7_init_295 : decode cX7_init 295 = .ok (.iinc 1 1, 3) := by decide +kernel
theorem dX7_init_298 : decode cX7_init 298 = .ok (.goto (-17), 3) := by decide +kernel
theorem dX7_init_301 : decode cX7_init 301 = .ok (.return_, 1) := by decide +kernel
theorem dX7_isIn_0 : decode cX7_isIn 0 = .ok (.iload_n 0, 1) := by decide +kernel
theorem dX7_isIn_1 : decode cX7_isIn 1 = .ok (.iload_n 1, 1) := by decide +kernel
theorem dX7_isIn_2 : decode cX7_isIn 2 = .ok (.if_icmp .lt 12, 3) := by decide +kernel
theorem dX7_isIn_5 : decode cX7_isIn 5 = .ok (.iload_n 0, 1) := by decide +kernel
theorem dX7_isIn_6 : decode cX7_isIn 6 = .ok (.iload_n 2, 1) := by decide +kernel
theorem dX7_isIn_7 : decode cX7_isIn 7 = .ok (.if_icmp .gt 7, 3) := by decide +kernel
theorem dX7_isIn_10 : decode cX7_isIn 10 = .ok (.iconst 1, 1) := by decide +kernel
theorem dX7_isIn_11 : decode cX7_isIn 11 = .ok (.goto 4, 3) := by decide +kernel
theorem dX7_isIn_14 : decode cX7_isIn 14 = .ok (.iconst 0, 1) := by decide +kernel
theorem dX7_isIn_15 : decode cX7_isIn 15 = .ok (.ireturn, 1) := by decide +kernel
set_option maxRecDepth 20000 in
theorem ggX7_isMachine_X7_isIn : GoodIn wsX7_isMachine wsX7_isIn := goodIn_r _ [5] (by decide +kernel) (by decide +kernel)
set_option maxRecDepth 20000 in
theorem gX7_isMachine_X7_isIn : GoodIn wsX7_isMachine (va_wsS RX7 122 yX7_isIn wsX7_isIn) := goodIn_app (goodIn_of _ (by decide +kernel)) ggX7_isMachine_X7_isIn
theorem dX7_isMachine_0 : decode cX7_isMachine 0 = .ok (.iload_n 1, 1) := by decide +kernel
theorem dX7_isMachine_1 : decode cX7_isMachine 1 = .ok (.iconst 0, 1) := by decide +kernel
theorem dX7_isMachine_2 : decode cX7_isMachine 2 = .ok (.aload_n 0, 1) := by decide +kernel
theorem dX7_isMachine_3 : decode cX7_isMachine 3 = .ok (.getfield 119, 3) := by decide +kernel
theorem dX7_isMachine_6 : decode cX7_isMachine 6 = .ok (.iconst 1, 1) := by decide +kernel
theorem dX7_isMachine_7 : decode cX7_isMachine 7 = .ok (.isub, 1) := by decide +kernel
theorem dX7_isMachine_8 : decode cX7_isMachine 8 = .ok (.invokestatic 122, 3) := by decide +kernel
theorem dX7_isMachine_11 : decode cX7_isMachine 11 = .ok (.ireturn, 1) := by decide +kernel
theorem dX7_draw_0 : decode cX7_draw 0 = .ok (.aload_n 0, 1) := by decide +kernel
theorem dX7_draw_1 : decode cX7_draw 1 = .ok (.aload_n 0, 1) := by decide +kernel
theorem dX7_draw_2 : decode cX7_draw 2 = .ok (.getfield 7, 3) := by decide +kernel
theorem dX7_draw_5 : decode cX7_draw 5 = .ok (.ldc 126, 2) := by decide +kernel
theorem dX7_draw_7 : decode cX7_draw 7 = .ok (.imul, 1) := by decide +kernel
theorem dX7_draw_8 : decode cX7_draw 8 = .ok (.sipush 12345, 3) := by decide +kernel
theorem dX7_draw_11 : decode cX7_draw 11 = .ok (.iadd, 1) := by decide +kernel
theorem dX7_draw_12 : decode cX7_draw 12 = .ok (.putfield 7, 3) := by decide +kernel
theorem dX7_draw_15 : decode cX7_draw 15 = .ok (.aload_n 0, 1) := by decide +kernel
theorem dX7_draw_16 : decode cX7_draw 16 = .ok (.getfield 7, 3) := by decide +kernel
theorem dX7_draw_19 : decode cX7_draw 19 = .ok (.bipush 16, 2) := by decide +kernel
theorem dX7_draw_21 : decode cX7_draw 21 = .ok (.iushr, 1) := by decide +kernel
theorem dX7_draw_22 : decode cX7_draw 22 = .ok (.iload_n 1, 1) := by decide +kernel
theorem dX7_draw_23 : decode cX7_draw 23 = .ok (.irem, 1) := by decide +kernel
theorem dX7_draw_24 : decode cX7_draw 24 = .ok (.ireturn, 1) := by decide +kernel
theorem dX7_seed_0 : decode cX7_seed 0 = .ok (.aload_n 0, 1) := by decide +kernel
theorem dX7_seed_1 : decode cX7_seed 1 = .ok (.iload_n 1, 1) := by decide +kernel
theorem dX7_seed_2 : decode cX7_seed 2 = .ok (.putfield 7, 3) := by decide +kernel
theorem dX7_seed_5 : decode cX7_seed 5 = .ok (.return_, 1) := by decide +kernel
set_option maxRecDepth 20000 in
theorem ggX7_rules_X7_isIn : GoodIn wsX7_rules wsX7_isIn := goodIn_r _ [9] (by decide +kernel) (by decide +kernel)
set_option maxRecDepth 20000 in
theorem gX7_rules_X7_isIn : GoodIn wsX7_rules (va_wsS RX7 122 yX7_isIn wsX7_isIn) := goodIn_app (goodIn_of _ (by decide +kernel)) ggX7_rules_X7_isIn
theorem dX7_rules_0 : decode cX7_rules 0 = .ok (.iload_n 1, 1) := by decide +kernel
theorem dX7_rules_1 : decode cX7_rules 1 = .ok (.iconst 1, 1) := by decide +kernel
theorem dX7_rules_2 : decode cX7_rules 2 = .ok (.bipush 9, 2) := by decide +kernel
theorem dX7_rules_4 : decode cX7_rules 4 = .ok (.invokestatic 122, 3) := by decide +kernel
theorem dX7_rules_7 : decode cX7_rules 7 = .ok (.ifCond .eq 42, 3) := by decide +kernel
theorem dX7_rules_10 : decode cX7_rules 10 = .ok (.iload_n 2, 1) := by decide +kernel
theorem dX7_rules_11 : decode cX7_rules 11 = .ok (.iconst 2, 1) := by decide +kernel
theorem dX7_rules_12 : decode cX7_rules 12 = .ok (.bipush 64, 2) := by decide +kernel
theorem dX7_rules_14 : decode cX7_rules 14 = .ok (.invokestatic 122, 3) := by decide +kernel
theorem dX7_rules_17 : decode cX7_rules 17 = .ok (.ifCond .eq 32, 3) := by decide +kernel
theorem dX7_rules_20 : decode cX7_rules 20 = .ok (.iload_n 3, 1) := by decide +kernel
theorem dX7_rules_21 : decode cX7_rules 21 = .ok (.iload_n 2, 1) := by decide +kernel
theorem dX7_rules_22 : decode cX7_rules 22 = .ok (.sipush 1024, 3) := by decide +kernel
theorem dX7_rules_25 : decode cX7_rules 25 = .ok (.invokestatic 122, 3) := by decide +kernel
theorem dX7_rules_28 : decode cX7_rules 28 = .ok (.ifCond .eq 21, 3) := by decide +kernel
theorem dX7_rules_31 : decode cX7_rules 31 = .ok (.iload 4, 2) := by decide +kernel
theorem dX7_rules_33 : decode cX7_rules 33 = .ok (.iconst 1, 1) := by decide +kernel
theorem dX7_rules_34 : decode cX7_rules 34 = .ok (.bipush 32, 2) := by decide +kernel
theorem dX7_rules_36 : decode cX7_rules 36 = .ok (.invokestatic 122, 3) := by decide +kernel
theorem dX7_rules_39 : decode cX7_rules 39 = .ok (.ifCond .eq 10, 3) := by decide +kernel
theorem dX7_rules_42 : decode cX7_rules 42 = .ok (.aload_n 0, 1) := by decide +kernel
theorem dX7_rules_43 : decode cX7_rules 43 = .ok (.getfield 119, 3) := by decide +kernel
theorem dX7_rules_46 : decode cX7_rules 46 = .ok (.ifCond .le 5, 3) := by decide +kernel
theorem dX7_rules_49 : decode cX7_rules 49 = .ok (.iconst 0, 1) := by decide +kernel
theorem dX7_rules_50 : decode cX7_rules 50 = .ok (.ireturn, 1) := by decide +kernel
theorem dX7_rules_51 : decode cX7_rules 51 = .ok (.aload_n 0, 1) := by decide +kernel
theorem dX7_rules_52 : decode cX7_rules 52 = .ok (.iload_n 1, 1) := by decide +kernel
theorem dX7_rules_53 : decode cX7_rules 53 = .ok (.putfield 13, 3) := by decide +kernel
theorem dX7_rules_56 : decode cX7_rules 56 = .ok (.aload_n 0, 1) := by decide +kernel
theorem dX7_rules_57 : decode cX7_rules 57 = .ok (.iload_n 2, 1) := by decide +kernel
theorem dX7_rules_58 : decode cX7_rules 58 = .ok (.putfield 16, 3) := by decide +kernel
theorem dX7_rules_61 : decode cX7_rules 61 = .ok (.aload_n 0, 1) := by decide +kernel
theorem dX7_rules_62 : decode cX7_rules 62 = .ok (.iload_n 3, 1) := by decide +kernel
theorem dX7_rules_63 : decode cX7_rules 63 = .ok (.putfield 19, 3) := by decide +kernel
theorem dX7_rules_66 : decode cX7_rules 66 = .ok (.aload_n 0, 1) := by decide +kernel
theorem dX7_rules_67 : decode cX7_rules 67 = .ok (.iload 4, 2) := by decide +kernel
theorem dX7_rules_69 : decode cX7_rules 69 = .ok (.putfield 22, 3) := by decide +kernel
theorem dX7_rules_72 : decode cX7_rules 72 = .ok (.iconst 1, 1) := by decide +kernel
theorem dX7_rules_73 : decode cX7_rules 73 = .ok (.ireturn, 1) := by decide +kernel
set_option maxRecDepth 20000 in
theorem ggX7_begin_X7_draw : GoodIn wsX7_begin wsX7_draw := goodIn_r _ [9, 10, 11, 12, 13, 14, 15, 16, 17, 18, 19, 20, 21, 22, 23, 24, 25, 26, 27, 28, 29, 30, 31, 32, 33, 34, 35, 36, 37, 38, 39, 40, 41, 42, 43, 44, 45, 46, 47, 48, 49, 50, 51, 52] (by decide +kernel) (by decide +kernel)
set_option maxRecDepth 20000 in
theorem gX7_begin_X7_draw : GoodIn wsX7_begin (wsV RX7 127 RX7 yX7_draw wsX7_draw) := goodIn_app (goodIn_of _ (by decide +kernel)) ggX7_begin_X7_draw
theorem dX7_begin_0 : decode cX7_begin 0 = .ok (.aload_n 0, 1) := by decide +kernel
theorem dX7_begin_1 : decode cX7_begin 1 = .ok (.getfield 53, 3) := by decide +kernel
theorem dX7_begin_4 : decode cX7_begin 4 = .ok (.iload_n 1, 1) := by decide +kernel
theorem dX7_begin_5 : decode cX7_begin 5 = .ok (.iload_n 2, 1) := by decide +kernel
theorem dX7_begin_6 : decode cX7_begin 6 = .ok (.iastore, 1) := by decide +kernel
theorem dX7_begin_7 : decode cX7_begin 7 = .ok (.aload_n 0, 1) := by decide +kernel
theorem dX7_begin_8 : decode cX7_begin 8 = .ok (.getfield 59, 3) := by decide +kernel
theorem dX7_begin_11 : decode cX7_begin 11 = .ok (.iload_n 1, 1) := by decide +kernel
theorem dX7_begin_12 : decode cX7_begin 12 = .ok (.iconst 0, 1) := by decide +kernel
theorem dX7_begin_13 : decode cX7_begin 13 = .ok (.iastore, 1) := by decide +kernel
theorem dX7_begin_14 : decode cX7_begin 14 = .ok (.aload_n 0, 1) := by decide +kernel
theorem dX7_begin_15 : decode cX7_begin 15 = .ok (.getfield 56, 3) := by decide +kernel
theorem dX7_begin_18 : decode cX7_begin 18 = .ok (.iload_n 1, 1) := by decide +kernel
theorem dX7_begin_19 : decode cX7_begin 19 = .ok (.iload_n 2, 1) := by decide +kernel
theorem dX7_begin_20 : decode cX7_begin 20 = .ok (.aload_n 0, 1) := by decide +kernel
theorem dX7_begin_21 : decode cX7_begin 21 = .ok (.getfield 50, 3) := by decide +kernel
theorem dX7_begin_24 : decode cX7_begin 24 = .ok (.iload_n 1, 1) := by decide +kernel
theorem dX7_begin_25 : decode cX7_begin 25 = .ok (.iaload, 1) := by decide +kernel
theorem dX7_begin_26 : decode cX7_begin 26 = .ok (.iconst 2, 1) := by decide +kernel
theorem dX7_begin_27 : decode cX7_begin 27 = .ok (.idiv, 1) := by decide +kernel
theorem dX7_begin_28 : decode cX7_begin 28 = .ok (.iadd, 1) := by decide +kernel
theorem dX7_begin_29 : decode cX7_begin 29 = .ok (.aload_n 0, 1) := by decide +kernel
theorem dX7_begin_30 : decode cX7_begin 30 = .ok (.aload_n 0, 1) := by decide +kernel
theorem dX7_begin_31 : decode cX7_begin 31 = .ok (.getfield 50, 3) := by decide +kernel
theorem dX7_begin_34 : decode cX7_begin 34 = .ok (.iload_n 1, 1) := by decide +kernel
theorem dX7_begin_35 : decode cX7_begin 35 = .ok (.iaload, 1) := by decide +kernel
theorem dX7_begin_36 : decode cX7_begin 36 = .ok (.aload_n 0, 1) := by decide +kernel
theorem dX7_begin_37 : decode cX7_begin 37 = .ok (.getfield 50, 3) := by decide +kernel
theorem dX7_begin_40 : decode cX7_begin 40 = .ok (.iload_n 1, 1) := by decide +kernel
theorem dX7_begin_41 : decode cX7_begin 41 = .ok (.iaload, 1) := by decide +kernel
theorem dX7_begin_42 : decode cX7_begin 42 = .ok (.iconst 2, 1) := by decide +kernel
theorem dX7_begin_43 : decode cX7_begin 43 = .ok (.idiv, 1) := by decide +kernel
theorem dX7_begin_44 : decode cX7_begin 44 = .ok (.isub, 1) := by decide +kernel
theorem dX7_begin_45 : decode cX7_begin 45 = .ok (.invokevirtual 127, 3) := by decide +kernel
theorem dX7_begin_48 : decode cX7_begin 48 = .ok (.iadd, 1) := by decide +kernel
theorem dX7_begin_49 : decode cX7_begin 49 = .ok (.iastore, 1) := by decide +kernel
theorem dX7_begin_50 : decode cX7_begin 50 = .ok (.return_, 1) := by decide +kernel
set_option maxRecDepth 20000 in
theorem ggX7_machine_X7_begin : GoodIn wsX7_machine wsX7_begin := goodIn_r _ [10, 11, 12, 13, 2, 14, 15, 16, 9, 17, 18, 19, 20, 21, 22, 23, 24, 25, 26, 27, 28, 29, 30, 31, 32, 33, 34, 35, 36, 37, 38, 39, 40, 41, 42, 43, 44, 45, 46, 47, 48, 49, 50, 51, 52, 53, 54, 55, 56, 57, 58, 59, 60] (by decide +kernel) (by decide +kernel)
set_option maxRecDepth 20000 in
theorem gX7_machine_X7_begin : GoodIn wsX7_machine (wsV RX7 134 RX7 yX7_begin wsX7_begin) := goodIn_app (goodIn_of _ (by decide +kernel)) ggX7_machine_X7_begin
theorem dX7_machine_0 : decode cX7_machine 0 = .ok (.aload_n 0, 1) := by decide +kernel
theorem dX7_machine_1 : decode cX7_machine 1 = .ok (.getfield 119, 3) := by decide +kernel
theorem dX7_machine_4 : decode cX7_machine 4 = .ok (.bipush 12, 2) := by decide +kernel
theorem dX7_machine_6 : decode cX7_machine 6 = .ok (.if_icmp .ne 5, 3) := by decide +kernel
theorem dX7_machine_9 : decode cX7_machine 9 = .ok (.iconst (-1), 1) := by decide +kernel
theorem dX7_machine_10 : decode cX7_machine 10 = .ok (.ireturn, 1) := by decide +kernel
theorem dX7_machine_11 : decode cX7_machine 11 = .ok (.aload_n 0, 1) := by decide +kernel
theorem dX7_machine_12 : decode cX7_machine 12 = .ok (.getfield 119, 3) := by decide +kernel
theorem dX7_machine_15 : decode cX7_machine 15 = .ok (.istore_n 1, 1) := by decide +kernel
theorem dX7_machine_16 : decode cX7_machine 16 = .ok (.aload_n 0, 1) := by decide +kernel
theorem dX7_machine_17 : decode cX7_machine 17 = .ok (.dup, 1) := by decide +kernel
theorem dX7_machine_18 : decode cX7_machine 18 = .ok (.getfield 119, 3) := by decide +kernel
theorem dX7_machine_21 : decode cX7_machine 21 = .ok (.iconst 1, 1) := by decide +kernel
theorem dX7_machine_22 : decode cX7_machine 22 = .ok (.iadd, 1) := by decide +kernel
theorem dX7_machine_23 : decode cX7_machine 23 = .ok (.putfield 119, 3) := by decide +kernel
theorem dX7_machine_26 : decode cX7_machine 26 = .ok (.aload_n 0, 1) := by decide +kernel
theorem dX7_machine_27 : decode cX7_machine 27 = .ok (.getfield 50, 3) := by decide +kernel
theorem dX7_machine_30 : decode cX7_machine 30 = .ok (.iload_n 1, 1) := by decide +kernel
theorem dX7_machine_31 : decode cX7_machine 31 = .ok (.aload_n 0, 1) := by decide +kernel
theorem dX7_machine_32 : decode cX7_machine 32 = .ok (.getfield 16, 3) := by decide +kernel
theorem dX7_machine_35 : decode cX7_machine 35 = .ok (.iastore, 1) := by decide +kernel
