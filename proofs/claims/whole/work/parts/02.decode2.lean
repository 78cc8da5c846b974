theorem dX4_takeTell_19 : decode cX4_takeTell 19 = .ok (.getfield 68, 3) := by decide +kernel
theorem dX4_takeTell_22 : decode cX4_takeTell 22 = .ok (.if_icmp .ne 17, 3) := by decide +kernel
theorem dX4_takeTell_25 : decode cX4_takeTell 25 = .ok (.aload_n 0, 1) := by decide +kernel
theorem dX4_takeTell_26 : decode cX4_takeTell 26 = .ok (.getfield 21, 3) := by decide +kernel
theorem dX4_takeTell_29 : decode cX4_takeTell 29 = .ok (.dup, 1) := by decide +kernel
theorem dX4_takeTell_30 : decode cX4_takeTell 30 = .ok (.getfield 116, 3) := by decide +kernel
theorem dX4_takeTell_33 : decode cX4_takeTell 33 = .ok (.iconst 1, 1) := by decide +kernel
theorem dX4_takeTell_34 : decode cX4_takeTell 34 = .ok (.iadd, 1) := by decide +kernel
theorem dX4_takeTell_35 : decode cX4_takeTell 35 = .ok (.putfield 116, 3) := by decide +kernel
theorem dX4_takeTell_38 : decode cX4_takeTell 38 = .ok (.return_, 1) := by decide +kernel
theorem dX4_takeTell_39 : decode cX4_takeTell 39 = .ok (.aload_n 0, 1) := by decide +kernel
theorem dX4_takeTell_40 : decode cX4_takeTell 40 = .ok (.iload_n 2, 1) := by decide +kernel
theorem dX4_takeTell_41 : decode cX4_takeTell 41 = .ok (.invokevirtual 145, 3) := by decide +kernel
theorem dX4_takeTell_44 : decode cX4_takeTell 44 = .ok (.aload_n 1, 1) := by decide +kernel
theorem dX4_takeTell_45 : decode cX4_takeTell 45 = .ok (.getfield 128, 3) := by decide +kernel
theorem dX4_takeTell_48 : decode cX4_takeTell 48 = .ok (.aload_n 0, 1) := by decide +kernel
theorem dX4_takeTell_49 : decode cX4_takeTell 49 = .ok (.getfield 59, 3) := by decide +kernel
theorem dX4_takeTell_52 : decode cX4_takeTell 52 = .ok (.if_icmp .lt 28, 3) := by decide +kernel
theorem dX4_takeTell_55 : decode cX4_takeTell 55 = .ok (.aload_n 1, 1) := by decide +kernel
theorem dX4_takeTell_56 : decode cX4_takeTell 56 = .ok (.getfield 128, 3) := by decide +kernel
theorem dX4_takeTell_59 : decode cX4_takeTell 59 = .ok (.aload_n 0, 1) := by decide +kernel
theorem dX4_takeTell_60 : decode cX4_takeTell 60 = .ok (.getfield 59, 3) := by decide +kernel
theorem dX4_takeTell_63 : decode cX4_takeTell 63 = .ok (.if_icmp .ne 21, 3) := by decide +kernel
theorem dX4_takeTell_66 : decode cX4_takeTell 66 = .ok (.aload_n 1, 1) := by decide +kernel
theorem dX4_takeTell_67 : decode cX4_takeTell 67 = .ok (.getfield 129, 3) := by decide +kernel
theorem dX4_takeTell_70 : decode cX4_takeTell 70 = .ok (.aload_n 0, 1) := by decide +kernel
theorem dX4_takeTell_71 : decode cX4_takeTell 71 = .ok (.getfield 12, 3) := by decide +kernel
theorem dX4_takeTell_74 : decode cX4_takeTell 74 = .ok (.getfield 68, 3) := by decide +kernel
theorem dX4_takeTell_77 : decode cX4_takeTell 77 = .ok (.if_icmp .ge 7, 3) := by decide +kernel
theorem dX4_takeTell_80 : decode cX4_takeTell 80 = .ok (.iconst 1, 1) := by decide +kernel
theorem dX4_takeTell_81 : decode cX4_takeTell 81 = .ok (.goto 4, 3) := by decide +kernel
theorem dX4_takeTell_84 : decode cX4_takeTell 84 = .ok (.iconst 0, 1) := by decide +kernel
theorem dX4_takeTell_85 : decode cX4_takeTell 85 = .ok (.istore_n 3, 1) := by decide +kernel
theorem dX4_takeTell_86 : decode cX4_takeTell 86 = .ok (.iload_n 3, 1) := by decide +kernel
theorem dX4_takeTell_87 : decode cX4_takeTell 87 = .ok (.ifCond .eq 33, 3) := by decide +kernel
theorem dX4_takeTell_90 : decode cX4_takeTell 90 = .ok (.aload_n 0, 1) := by decide +kernel
theorem dX4_takeTell_91 : decode cX4_takeTell 91 = .ok (.getfield 32, 3) := by decide +kernel
theorem dX4_takeTell_94 : decode cX4_takeTell 94 = .ok (.iconst (-1), 1) := by decide +kernel
theorem dX4_takeTell_95 : decode cX4_takeTell 95 = .ok (.if_icmp .ne 25, 3) := by decide +kernel
theorem dX4_takeTell_98 : decode cX4_takeTell 98 = .ok (.aload_n 0, 1) := by decide +kernel
theorem dX4_takeTell_99 : decode cX4_takeTell 99 = .ok (.iload_n 2, 1) := by decide +kernel
theorem dX4_takeTell_100 : decode cX4_takeTell 100 = .ok (.iconst 1, 1) := by decide +kernel
theorem dX4_takeTell_101 : decode cX4_takeTell 101 = .ok (.iadd, 1) := by decide +kernel
theorem dX4_takeTell_102 : decode cX4_takeTell 102 = .ok (.aload_n 0, 1) := by decide +kernel
theorem dX4_takeTell_103 : decode cX4_takeTell 103 = .ok (.getfield 40, 3) := by decide +kernel
theorem dX4_takeTell_106 : decode cX4_takeTell 106 = .ok (.aload_n 0, 1) := by decide +kernel
theorem dX4_takeTell_107 : decode cX4_takeTell 107 = .ok (.getfield 36, 3) := by decide +kernel
theorem dX4_takeTell_110 : decode cX4_takeTell 110 = .ok (.getfield 148, 3) := by decide +kernel
theorem dX4_takeTell_113 : decode cX4_takeTell 113 = .ok (.invokevirtual 96, 3) := by decide +kernel
theorem dX4_takeTell_116 : decode cX4_takeTell 116 = .ok (.iadd, 1) := by decide +kernel
theorem dX4_takeTell_117 : decode cX4_takeTell 117 = .ok (.putfield 32, 3) := by decide +kernel
theorem dX4_takeTell_120 : decode cX4_takeTell 120 = .ok (.return_, 1) := by decide +kernel
set_option maxRecDepth 20000 in
theorem ggX4_takeMix_X4_keep : GoodIn wsX4_takeMix wsX4_keep := goodIn_r _ [8, 1, 2, 3, 9, 10, 11, 12, 13, 14, 15, 16, 17, 18, 19, 20, 21, 74, 75, 76, 77, 78, 79, 80, 81, 82, 83, 84, 85, 86, 87, 88, 89, 90, 91, 92, 93, 94] (by decide +kernel) (by decide +kernel)
set_option maxRecDepth 20000 in
theorem gX4_takeMix_X4_keep : GoodIn wsX4_takeMix (wsV RX4 44 RX4 yX4_keep wsX4_keep) := goodIn_app (goodIn_of _ (by decide +kernel)) ggX4_takeMix_X4_keep
set_option maxRecDepth 20000 in
theorem ggX4_takeMix_X4_takeOwnMix : GoodIn wsX4_takeMix wsX4_takeOwnMix := goodIn_r _ [25, 26, 9, 2, 3, 27, 28, 29, 30, 13, 31, 15, 16, 17, 32, 33, 34, 35, 36, 37, 38, 39, 40, 41, 10, 11, 12, 14, 18, 19, 20, 21, 74, 75, 76, 77, 78, 79, 80, 81, 82, 83, 84, 85, 86, 87, 88, 89, 90, 91, 92, 93, 94] (by decide +kernel) (by decide +kernel)
set_option maxRecDepth 20000 in
theorem gX4_takeMix_X4_takeOwnMix : GoodIn wsX4_takeMix (wsV RX4 157 RX4 yX4_takeOwnMix wsX4_takeOwnMix) := goodIn_app (goodIn_of _ (by decide +kernel)) ggX4_takeMix_X4_takeOwnMix
set_option maxRecDepth 20000 in
theorem ggX4_takeMix_X4_stir : GoodIn wsX4_takeMix wsX4_stir := goodIn_r _ [45, 46, 47, 48, 49, 50, 51, 52, 53, 54, 55, 56, 57, 58, 59, 60, 61, 62, 63, 64, 74, 75, 76, 77, 78, 79, 80, 81, 82, 83, 84, 85, 86, 87, 88, 89, 90, 91, 95, 96, 97, 98, 99, 100, 101, 102, 103] (by decide +kernel) (by decide +kernel)
set_option maxRecDepth 20000 in
theorem gX4_takeMix_X4_stir : GoodIn wsX4_takeMix (wsV RX4 145 RX4 yX4_stir wsX4_stir) := goodIn_app (goodIn_of _ (by decide +kernel)) ggX4_takeMix_X4_stir
theorem dX4_takeMix_0 : decode cX4_takeMix 0 = .ok (.aload_n 1, 1) := by decide +kernel
theorem dX4_takeMix_1 : decode cX4_takeMix 1 = .ok (.getfield 128, 3) := by decide +kernel
theorem dX4_takeMix_4 : decode cX4_takeMix 4 = .ok (.aload_n 0, 1) := by decide +kernel
theorem dX4_takeMix_5 : decode cX4_takeMix 5 = .ok (.getfield 59, 3) := by decide +kernel
theorem dX4_takeMix_8 : decode cX4_takeMix 8 = .ok (.if_icmp .le 19, 3) := by decide +kernel
theorem dX4_takeMix_11 : decode cX4_takeMix 11 = .ok (.aload_n 0, 1) := by decide +kernel
theorem dX4_takeMix_12 : decode cX4_takeMix 12 = .ok (.aload_n 1, 1) := by decide +kernel
theorem dX4_takeMix_13 : decode cX4_takeMix 13 = .ok (.getfield 128, 3) := by decide +kernel
theorem dX4_takeMix_16 : decode cX4_takeMix 16 = .ok (.aload_n 1, 1) := by decide +kernel
theorem dX4_takeMix_17 : decode cX4_takeMix 17 = .ok (.getfield 130, 3) := by decide +kernel
theorem dX4_takeMix_20 : decode cX4_takeMix 20 = .ok (.aload_n 1, 1) := by decide +kernel
theorem dX4_takeMix_21 : decode cX4_takeMix 21 = .ok (.getfield 131, 3) := by decide +kernel
theorem dX4_takeMix_24 : decode cX4_takeMix 24 = .ok (.invokevirtual 44, 3) := by decide +kernel
theorem dX4_takeMix_27 : decode cX4_takeMix 27 = .ok (.aload_n 1, 1) := by decide +kernel
theorem dX4_takeMix_28 : decode cX4_takeMix 28 = .ok (.getfield 128, 3) := by decide +kernel
theorem dX4_takeMix_31 : decode cX4_takeMix 31 = .ok (.aload_n 0, 1) := by decide +kernel
theorem dX4_takeMix_32 : decode cX4_takeMix 32 = .ok (.getfield 59, 3) := by decide +kernel
theorem dX4_takeMix_35 : decode cX4_takeMix 35 = .ok (.if_icmp .ne 29, 3) := by decide +kernel
theorem dX4_takeMix_38 : decode cX4_takeMix 38 = .ok (.aload_n 1, 1) := by decide +kernel
theorem dX4_takeMix_39 : decode cX4_takeMix 39 = .ok (.getfield 130, 3) := by decide +kernel
theorem dX4_takeMix_42 : decode cX4_takeMix 42 = .ok (.aload_n 0, 1) := by decide +kernel
theorem dX4_takeMix_43 : decode cX4_takeMix 43 = .ok (.getfield 62, 3) := by decide +kernel
theorem dX4_takeMix_46 : decode cX4_takeMix 46 = .ok (.if_icmp .ne 18, 3) := by decide +kernel
theorem dX4_takeMix_49 : decode cX4_takeMix 49 = .ok (.aload_n 1, 1) := by decide +kernel
theorem dX4_takeMix_50 : decode cX4_takeMix 50 = .ok (.getfield 131, 3) := by decide +kernel
theorem dX4_takeMix_53 : decode cX4_takeMix 53 = .ok (.aload_n 0, 1) := by decide +kernel
theorem dX4_takeMix_54 : decode cX4_takeMix 54 = .ok (.getfield 56, 3) := by decide +kernel
theorem dX4_takeMix_57 : decode cX4_takeMix 57 = .ok (.if_icmp .ne 7, 3) := by decide +kernel
theorem dX4_takeMix_60 : decode cX4_takeMix 60 = .ok (.iconst 1, 1) := by decide +kernel
theorem dX4_takeMix_61 : decode cX4_takeMix 61 = .ok (.goto 4, 3) := by decide +kernel
theorem dX4_takeMix_64 : decode cX4_takeMix 64 = .ok (.iconst 0, 1) := by decide +kernel
theorem dX4_takeMix_65 : decode cX4_takeMix 65 = .ok (.istore_n 3, 1) := by decide +kernel
theorem dX4_takeMix_66 : decode cX4_takeMix 66 = .ok (.iload_n 3, 1) := by decide +kernel
theorem dX4_takeMix_67 : decode cX4_takeMix 67 = .ok (.ifCond .eq 18, 3) := by decide +kernel
theorem dX4_takeMix_70 : decode cX4_takeMix 70 = .ok (.aload_n 0, 1) := by decide +kernel
theorem dX4_takeMix_71 : decode cX4_takeMix 71 = .ok (.aload_n 1, 1) := by decide +kernel
theorem dX4_takeMix_72 : decode cX4_takeMix 72 = .ok (.getfield 151, 3) := by decide +kernel
theorem dX4_takeMix_75 : decode cX4_takeMix 75 = .ok (.aload_n 1, 1) := by decide +kernel
theorem dX4_takeMix_76 : decode cX4_takeMix 76 = .ok (.getfield 154, 3) := by decide +kernel
theorem dX4_takeMix_79 : decode cX4_takeMix 79 = .ok (.invokevirtual 157, 3) := by decide +kernel
theorem dX4_takeMix_82 : decode cX4_takeMix 82 = .ok (.ifCond .eq 8, 3) := by decide +kernel
theorem dX4_takeMix_85 : decode cX4_takeMix 85 = .ok (.aload_n 0, 1) := by decide +kernel
theorem dX4_takeMix_86 : decode cX4_takeMix 86 = .ok (.iload_n 2, 1) := by decide +kernel
theorem dX4_takeMix_87 : decode cX4_takeMix 87 = .ok (.invokevirtual 145, 3) := by decide +kernel
theorem dX4_takeMix_90 : decode cX4_takeMix 90 = .ok (.return_, 1) := by decide +kernel
set_option maxRecDepth 20000 in
theorem ggX4_takeOwnMix_X0_takeIn : GoodIn wsX4_takeOwnMix wsX0_takeIn := goodIn_r _ [10, 11, 12, 13, 14, 15, 9, 16, 17, 18, 19, 50, 51, 52] (by decide +kernel) (by decide +kernel)
set_option maxRecDepth 20000 in
theorem gX4_takeOwnMix_X0_takeIn : GoodIn wsX4_takeOwnMix (wsV RX4 48 RX0 yX0_takeIn wsX0_takeIn) := goodIn_app (goodIn_of _ (by decide +kernel)) ggX4_takeOwnMix_X0_takeIn
set_option maxRecDepth 20000 in
theorem ggX4_takeOwnMix_X0_sumOfPieces : GoodIn wsX4_takeOwnMix wsX0_sumOfPieces := goodIn_r _ [23, 12, 50, 51, 52] (by decide +kernel) (by decide +kernel)
set_option maxRecDepth 20000 in
theorem gX4_takeOwnMix_X0_sumOfPieces : GoodIn wsX4_takeOwnMix (wsV RX4 52 RX0 yX0_sumOfPieces wsX0_sumOfPieces) := goodIn_app (goodIn_of _ (by decide +kernel)) ggX4_takeOwnMix_X0_sumOfPieces
set_option maxRecDepth 20000 in
theorem ggX4_takeOwnMix_X0_empty : GoodIn wsX4_takeOwnMix wsX0_empty := goodIn_r _ [27, 11, 12, 13, 28, 29, 30, 31, 50, 51, 52] (by decide +kernel) (by decide +kernel)
set_option maxRecDepth 20000 in
theorem gX4_takeOwnMix_X0_empty : GoodIn wsX4_takeOwnMix (wsV RX4 65 RX0 yX0_empty wsX0_empty) := goodIn_app (goodIn_of _ (by decide +kernel)) ggX4_takeOwnMix_X0_empty
theorem dX4_takeOwnMix_0 : decode cX4_takeOwnMix 0 = .ok (.aload_n 0, 1) := by decide +kernel
theorem dX4_takeOwnMix_1 : decode cX4_takeOwnMix 1 = .ok (.iconst (-1), 1) := by decide +kernel
theorem dX4_takeOwnMix_2 : decode cX4_takeOwnMix 2 = .ok (.putfield 32, 3) := by decide +kernel
theorem dX4_takeOwnMix_5 : decode cX4_takeOwnMix 5 = .ok (.aload_n 0, 1) := by decide +kernel
theorem dX4_takeOwnMix_6 : decode cX4_takeOwnMix 6 = .ok (.getfield 12, 3) := by decide +kernel
theorem dX4_takeOwnMix_9 : decode cX4_takeOwnMix 9 = .ok (.iload_n 1, 1) := by decide +kernel
theorem dX4_takeOwnMix_10 : decode cX4_takeOwnMix 10 = .ok (.iload_n 2, 1) := by decide +kernel
theorem dX4_takeOwnMix_11 : decode cX4_takeOwnMix 11 = .ok (.invokevirtual 48, 3) := by decide +kernel
theorem dX4_takeOwnMix_14 : decode cX4_takeOwnMix 14 = .ok (.ifCond .ne 5, 3) := by decide +kernel
theorem dX4_takeOwnMix_17 : decode cX4_takeOwnMix 17 = .ok (.iconst 0, 1) := by decide +kernel
theorem dX4_takeOwnMix_18 : decode cX4_takeOwnMix 18 = .ok (.ireturn, 1) := by decide +kernel
theorem dX4_takeOwnMix_19 : decode cX4_takeOwnMix 19 = .ok (.aload_n 0, 1) := by decide +kernel
theorem dX4_takeOwnMix_20 : decode cX4_takeOwnMix 20 = .ok (.getfield 12, 3) := by decide +kernel
theorem dX4_takeOwnMix_23 : decode cX4_takeOwnMix 23 = .ok (.getfield 68, 3) := by decide +kernel
theorem dX4_takeOwnMix_26 : decode cX4_takeOwnMix 26 = .ok (.aload_n 0, 1) := by decide +kernel
theorem dX4_takeOwnMix_27 : decode cX4_takeOwnMix 27 = .ok (.getfield 62, 3) := by decide +kernel
theorem dX4_takeOwnMix_30 : decode cX4_takeOwnMix 30 = .ok (.if_icmp .ne 34, 3) := by decide +kernel
theorem dX4_takeOwnMix_33 : decode cX4_takeOwnMix 33 = .ok (.aload_n 0, 1) := by decide +kernel
theorem dX4_takeOwnMix_34 : decode cX4_takeOwnMix 34 = .ok (.getfield 12, 3) := by decide +kernel
theorem dX4_takeOwnMix_37 : decode cX4_takeOwnMix 37 = .ok (.invokevirtual 52, 3) := by decide +kernel
theorem dX4_takeOwnMix_40 : decode cX4_takeOwnMix 40 = .ok (.aload_n 0, 1) := by decide +kernel
theorem dX4_takeOwnMix_41 : decode cX4_takeOwnMix 41 = .ok (.getfield 56, 3) := by decide +kernel
theorem dX4_takeOwnMix_44 : decode cX4_takeOwnMix 44 = .ok (.if_icmp .eq 20, 3) := by decide +kernel
theorem dX4_takeOwnMix_47 : decode cX4_takeOwnMix 47 = .ok (.aload_n 0, 1) := by decide +kernel
theorem dX4_takeOwnMix_48 : decode cX4_takeOwnMix 48 = .ok (.getfield 12, 3) := by decide +kernel
theorem dX4_takeOwnMix_51 : decode cX4_takeOwnMix 51 = .ok (.invokevirtual 65, 3) := by decide +kernel
theorem dX4_takeOwnMix_54 : decode cX4_takeOwnMix 54 = .ok (.aload_n 0, 1) := by decide +kernel
theorem dX4_takeOwnMix_55 : decode cX4_takeOwnMix 55 = .ok (.dup, 1) := by decide +kernel
theorem dX4_takeOwnMix_56 : decode cX4_takeOwnMix 56 = .ok (.getfield 160, 3) := by decide +kernel
theorem dX4_takeOwnMix_59 : decode cX4_takeOwnMix 59 = .ok (.iconst 1, 1) := by decide +kernel
theorem dX4_takeOwnMix_60 : decode cX4_takeOwnMix 60 = .ok (.iadd, 1) := by decide +kernel
theorem dX4_takeOwnMix_61 : decode cX4_takeOwnMix 61 = .ok (.putfield 160, 3) := by decide +kernel
theorem dX4_takeOwnMix_64 : decode cX4_takeOwnMix 64 = .ok (.iconst 1, 1) := by decide +kernel
theorem dX4_takeOwnMix_65 : decode cX4_takeOwnMix 65 = .ok (.ireturn, 1) := by decide +kernel
set_option maxRecDepth 20000 in
theorem ggX4_end_X2_begin : GoodIn wsX4_end wsX2_begin := goodIn_r _ [15, 16, 17, 18, 19, 20, 21, 22, 23, 24, 25, 26, 57, 58, 59, 60, 65] (by decide +kernel) (by decide +kernel)
set_option maxRecDepth 20000 in
theorem gX4_end_X2_begin : GoodIn wsX4_end (wsV RX4 83 RX2 yX2_begin wsX2_begin) := goodIn_app (goodIn_of _ (by decide +kernel)) ggX4_end_X2_begin
set_option maxRecDepth 20000 in
theorem ggX4_end_X4_isWholeOf : GoodIn wsX4_end wsX4_isWholeOf := goodIn_r _ [31, 32, 33, 34, 35, 30, 36, 37, 38, 39, 40, 41, 42, 43, 44, 45, 46, 47, 48, 49, 50, 51, 52, 53, 54, 55, 56, 66, 67, 68] (by decide +kernel) (by decide +kernel)
set_option maxRecDepth 20000 in
theorem gX4_end_X4_isWholeOf : GoodIn wsX4_end (wsV RX4 175 RX4 yX4_isWholeOf wsX4_isWholeOf) := goodIn_app (goodIn_of _ (by decide +kernel)) ggX4_end_X4_isWholeOf
theorem dX4_end_0 : decode cX4_end 0 = .ok (.iload_n 1, 1) := by decide +kernel
theorem dX4_end_1 : decode cX4_end 1 = .ok (.iconst 1, 1) := by decide +kernel
theorem dX4_end_2 : decode cX4_end 2 = .ok (.iadd, 1) := by decide +kernel
theorem dX4_end_3 : decode cX4_end 3 = .ok (.aload_n 0, 1) := by decide +kernel
theorem dX4_end_4 : decode cX4_end 4 = .ok (.getfield 21, 3) := by decide +kernel
theorem dX4_end_7 : decode cX4_end 7 = .ok (.getfield 163, 3) := by decide +kernel
theorem dX4_end_10 : decode cX4_end 10 = .ok (.isub, 1) := by decide +kernel
theorem dX4_end_11 : decode cX4_end 11 = .ok (.aload_n 0, 1) := by decide +kernel
theorem dX4_end_12 : decode cX4_end 12 = .ok (.getfield 21, 3) := by decide +kernel
theorem dX4_end_15 : decode cX4_end 15 = .ok (.getfield 75, 3) := by decide +kernel
theorem dX4_end_18 : decode cX4_end 18 = .ok (.if_icmp .lt 38, 3) := by decide +kernel
theorem dX4_end_21 : decode cX4_end 21 = .ok (.aload_n 0, 1) := by decide +kernel
theorem dX4_end_22 : decode cX4_end 22 = .ok (.getfield 21, 3) := by decide +kernel
theorem dX4_end_25 : decode cX4_end 25 = .ok (.getfield 75, 3) := by decide +kernel
theorem dX4_end_28 : decode cX4_end 28 = .ok (.iconst 2, 1) := by decide +kernel
theorem dX4_end_29 : decode cX4_end 29 = .ok (.imul, 1) := by decide +kernel
theorem dX4_end_30 : decode cX4_end 30 = .ok (.aload_n 0, 1) := by decide +kernel
theorem dX4_end_31 : decode cX4_end 31 = .ok (.getfield 36, 3) := by decide +kernel
theorem dX4_end_34 : decode cX4_end 34 = .ok (.getfield 166, 3) := by decide +kernel
theorem dX4_end_37 : decode cX4_end 37 = .ok (.invokestatic 169, 3) := by decide +kernel
theorem dX4_end_40 : decode cX4_end 40 = .ok (.istore_n 2, 1) := by decide +kernel
theorem dX4_end_41 : decode cX4_end 41 = .ok (.aload_n 0, 1) := by decide +kernel
theorem dX4_end_42 : decode cX4_end 42 = .ok (.getfield 21, 3) := by decide +kernel
theorem dX4_end_45 : decode cX4_end 45 = .ok (.iload_n 2, 1) := by decide +kernel
theorem dX4_end_46 : decode cX4_end 46 = .ok (.iload_n 1, 1) := by decide +kernel
theorem dX4_end_47 : decode cX4_end 47 = .ok (.iconst 1, 1) := by decide +kernel
theorem dX4_end_48 : decode cX4_end 48 = .ok (.iadd, 1) := by decide +kernel
theorem dX4_end_49 : decode cX4_end 49 = .ok (.aload_n 0, 1) := by decide +kernel
theorem dX4_end_50 : decode cX4_end 50 = .ok (.getfield 40, 3) := by decide +kernel
theorem dX4_end_53 : decode cX4_end 53 = .ok (.invokevirtual 83, 3) := by decide +kernel
theorem dX4_end_56 : decode cX4_end 56 = .ok (.aload_n 0, 1) := by decide +kernel
theorem dX4_end_57 : decode cX4_end 57 = .ok (.getfield 87, 3) := by decide +kernel
theorem dX4_end_60 : decode cX4_end 60 = .ok (.ifCond .eq 32, 3) := by decide +kernel
theorem dX4_end_63 : decode cX4_end 63 = .ok (.iload_n 1, 1) := by decide +kernel
theorem dX4_end_64 : decode cX4_end 64 = .ok (.iconst 1, 1) := by decide +kernel
theorem dX4_end_65 : decode cX4_end 65 = .ok (.iadd, 1) := by decide +kernel
theorem dX4_end_66 : decode cX4_end 66 = .ok (.aload_n 0, 1) := by decide +kernel
theorem dX4_end_67 : decode cX4_end 67 = .ok (.getfield 90, 3) := by decide +kernel
theorem dX4_end_70 : decode cX4_end 70 = .ok (.if_icmp .lt 22, 3) := by decide +kernel
theorem dX4_end_73 : decode cX4_end 73 = .ok (.aload_n 0, 1) := by decide +kernel
theorem dX4_end_74 : decode cX4_end 74 = .ok (.aload_n 0, 1) := by decide +kernel
theorem dX4_end_75 : decode cX4_end 75 = .ok (.getfield 87, 3) := by decide +kernel
theorem dX4_end_78 : decode cX4_end 78 = .ok (.invokevirtual 175, 3) := by decide +kernel
theorem dX4_end_81 : decode cX4_end 81 = .ok (.ifCond .eq 11, 3) := by decide +kernel
theorem dX4_end_84 : decode cX4_end 84 = .ok (.aload_n 0, 1) := by decide +kernel
theorem dX4_end_85 : decode cX4_end 85 = .ok (.aload_n 0, 1) := by decide +kernel
theorem dX4_end_86 : decode cX4_end 86 = .ok (.getfield 87, 3) := by decide +kernel
theorem dX4_end_89 : decode cX4_end 89 = .ok (.putfield 179, 3) := by decide +kernel
theorem dX4_end_92 : decode cX4_end 92 = .ok (.return_, 1) := by decide +kernel
set_option maxRecDepth 20000 in
theorem ggX4_answer_X4_isWhole : GoodIn wsX4_answer wsX4_isWhole := goodIn_r _ [18, 1, 3, 2, 19, 20, 21, 22, 23, 24, 25, 26, 27, 28, 29, 30, 31, 32, 33, 34, 35, 36, 37, 38, 39] (by decide +kernel) (by decide +kernel)
set_option maxRecDepth 20000 in
theorem gX4_answer_X4_isWhole : GoodIn wsX4_answer (wsV RX4 71 RX4 yX4_isWhole wsX4_isWhole) := goodIn_app (goodIn_of _ (by decide +kernel)) ggX4_answer_X4_isWhole
theorem dX4_answer_0 : decode cX4_answer 0 = .ok (.iload_n 1, 1) := by decide +kernel
theorem dX4_answer_1 : decode cX4_answer 1 = .ok (.tableswitch 191 0 16 #[83, 88, 93, 101, 114, 119, 127, 135, 143, 151, 156, 161, 166, 171, 176, 181, 186], 83) := by decide +kernel
theorem dX4_answer_84 : decode cX4_answer 84 = .ok (.aload_n 0, 1) := by decide +kernel
theorem dX4_answer_85 : decode cX4_answer 85 = .ok (.getfield 59, 3) := by decide +kernel
theorem dX4_answer_88 : decode cX4_answer 88 = .ok (.ireturn, 1) := by decide +kernel
theorem dX4_answer_89 : decode cX4_answer 89 = .ok (.aload_n 0, 1) := by decide +kernel
theorem dX4_answer_90 : decode cX4_answer 90 = .ok (.getfield 62, 3) := by decide +kernel
theorem dX4_answer_93 : decode cX4_answer 93 = .ok (.ireturn, 1) := by decide +kernel
theorem dX4_answer_94 : decode cX4_answer 94 = .ok (.aload_n 0, 1) := by decide +kernel
theorem dX4_answer_95 : decode cX4_answer 95 = .ok (.getfield 12, 3) := by decide +kernel
theorem dX4_answer_98 : decode cX4_answer 98 = .ok (.getfield 68, 3) := by decide +kernel
theorem dX4_answer_101 : decode cX4_answer 101 = .ok (.ireturn, 1) := by decide +kernel
theorem dX4_answer_102 : decode cX4_answer 102 = .ok (.aload_n 0, 1) := by decide +kernel
theorem dX4_answer_103 : decode cX4_answer 103 = .ok (.invokevirtual 71, 3) := by decide +kernel
theorem dX4_answer_106 : decode cX4_answer 106 = .ok (.ifCond .eq 7, 3) := by decide +kernel
theorem dX4_answer_109 : decode cX4_answer 109 = .ok (.iconst 1, 1) := by decide +kernel
theorem dX4_answer_110 : decode cX4_answer 110 = .ok (.goto 4, 3) := by decide +kernel
theorem dX4_answer_113 : decode cX4_answer 113 = .ok (.iconst 0, 1) := by decide +kernel
theorem dX4_answer_114 : decode cX4_answer 114 = .ok (.ireturn, 1) := by decide +kernel
theorem dX4_answer_115 : decode cX4_answer 115 = .ok (.aload_n 0, 1) := by decide +kernel
theorem dX4_answer_116 : decode cX4_answer 116 = .ok (.getfield 179, 3) := by decide +kernel
theorem dX4_answer_119 : decode cX4_answer 119 = .ok (.ireturn, 1) := by decide +kernel
theorem dX4_answer_120 : decode cX4_answer 120 = .ok (.aload_n 0, 1) := by decide +kernel
theorem dX4_answer_121 : decode cX4_answer 121 = .ok (.getfield 21, 3) := by decide +kernel
theorem dX4_answer_124 : decode cX4_answer 124 = .ok (.getfield 75, 3) := by decide +kernel
theorem dX4_answer_127 : decode cX4_answer 127 = .ok (.ireturn, 1) := by decide +kernel
theorem dX4_answer_128 : decode cX4_answer 128 = .ok (.aload_n 0, 1) := by decide +kernel
theorem dX4_answer_129 : decode cX4_answer 129 = .ok (.getfield 21, 3) := by decide +kernel
theorem dX4_answer_132 : decode cX4_answer 132 = .ok (.getfield 163, 3) := by decide +kernel
theorem dX4_answer_135 : decode cX4_answer 135 = .ok (.ireturn, 1) := by decide +kernel
theorem dX4_answer_136 : decode cX4_answer 136 = .ok (.aload_n 0, 1) := by decide +kernel
theorem dX4_answer_137 : decode cX4_answer 137 = .ok (.getfield 21, 3) := by decide +kernel
theorem dX4_answer_140 : decode cX4_answer 140 = .ok (.getfield 113, 3) := by decide +kernel
theorem dX4_answer_143 : decode cX4_answer 143 = .ok (.ireturn, 1) := by decide +kernel
theorem dX4_answer_144 : decode cX4_answer 144 = .ok (.aload_n 0, 1) := by decide +kernel
theorem dX4_answer_145 : decode cX4_answer 145 = .ok (.getfield 21, 3) := by decide +kernel
theorem dX4_answer_148 : decode cX4_answer 148 = .ok (.getfield 116, 3) := by decide +kernel
theorem dX4_answer_151 : decode cX4_answer 151 = .ok (.ireturn, 1) := by decide +kernel
theorem dX4_answer_152 : decode cX4_answer 152 = .ok (.aload_n 0, 1) := by decide +kernel
theorem dX4_answer_153 : decode cX4_answer 153 = .ok (.getfield 32, 3) := by decide +kernel
theorem dX4_answer_156 : decode cX4_answer 156 = .ok (.ireturn, 1) := by decide +kernel
theorem dX4_answer_157 : decode cX4_answer 157 = .ok (.aload_n 0, 1) := by decide +kernel
theorem dX4_answer_158 : decode cX4_answer 158 = .ok (.getfield 122, 3) := by decide +kernel
theorem dX4_answer_161 : decode cX4_answer 161 = .ok (.ireturn, 1) := by decide +kernel
theorem dX4_answer_162 : decode cX4_answer 162 = .ok (.aload_n 0, 1) := by decide +kernel
theorem dX4_answer_163 : decode cX4_answer 163 = .ok (.getfield 110, 3) := by decide +kernel
theorem dX4_answer_166 : decode cX4_answer 166 = .ok (.ireturn, 1) := by decide +kernel
theorem dX4_answer_167 : decode cX4_answer 167 = .ok (.aload_n 0, 1) := by decide +kernel
theorem dX4_answer_168 : decode cX4_answer 168 = .ok (.getfield 182, 3) := by decide +kernel
theorem dX4_answer_171 : decode cX4_answer 171 = .ok (.ireturn, 1) := by decide +kernel
theorem dX4_answer_172 : decode cX4_answer 172 = .ok (.aload_n 0, 1) := by decide +kernel
theorem dX4_answer_173 : decode cX4_answer 173 = .ok (.getfield 185, 3) := by decide +kernel
theorem dX4_answer_176 : decode cX4_answer 176 = .ok (.ireturn, 1) := by decide +kernel
theorem dX4_answer_177 : decode cX4_answer 177 = .ok (.aload_n 0, 1) := by decide +kernel
theorem dX4_answer_178 : decode cX4_answer 178 = .ok (.getfield 160, 3) := by decide +kernel
theorem dX4_answer_181 : decode cX4_answer 181 = .ok (.ireturn, 1) := by decide +kernel
theorem dX4_answer_182 : decode cX4_answer 182 = .ok (.aload_n 0, 1) := by decide +kernel
theorem dX4_answer_183 : decode cX4_answer 183 = .ok (.getfield 87, 3) := by decide +kernel
theorem dX4_answer_186 : decode cX4_answer 186 = .ok (.ireturn, 1) := by decide +kernel
theorem dX4_answer_187 : decode cX4_answer 187 = .ok (.aload_n 0, 1) := by decide +kernel
theorem dX4_answer_188 : decode cX4_answer 188 = .ok (.getfield 90, 3) := by decide +kernel
theorem dX4_answer_191 : decode cX4_answer 191 = .ok (.ireturn, 1) := by decide +kernel
theorem dX4_answer_192 : decode cX4_answer 192 = .ok (.iconst (-1), 1) := by decide +kernel
theorem dX4_answer_193 : decode cX4_answer 193 = .ok (.ireturn, 1) := by decide +kernel
theorem dX5_init_0 : decode cX5_init 0 = .ok (.aload_n 0, 1) := by decide +kernel
theorem dX5_init_1 : decode cX5_init 1 = .ok (.invokespecial 1, 3) := by decide +kernel
theorem dX5_init_4 : decode cX5_init 4 = .ok (.aload_n 0, 1) := by decide +kernel
theorem dX5_init_5 : decode cX5_init 5 = .ok (.iconst 2, 1) := by decide +kernel
theorem dX5_init_6 : decode cX5_init 6 = .ok (.putfield 7, 3) := by decide +kernel
theorem dX5_init_9 : decode cX5_init 9 = .ok (.aload_n 0, 1) := by decide +kernel
theorem dX5_init_10 : decode cX5_init 10 = .ok (.iconst 4, 1) := by decide +kernel
theorem dX5_init_11 : decode cX5_init 11 = .ok (.putfield 13, 3) := by decide +kernel
theorem dX5_init_14 : decode cX5_init 14 = .ok (.aload_n 0, 1) := by decide +kernel
theorem dX5_init_15 : decode cX5_init 15 = .ok (.bipush 64, 2) := by decide +kernel
theorem dX5_init_17 : decode cX5_init 17 = .ok (.putfield 16, 3) := by decide +kernel
theorem dX5_init_20 : decode cX5_init 20 = .ok (.aload_n 0, 1) := by decide +kernel
theorem dX5_init_21 : decode cX5_init 21 = .ok (.bipush 6, 2) := by decide +kernel
theorem dX5_init_23 : decode cX5_init 23 = .ok (.putfield 19, 3) := by decide +kernel
theorem dX5_init_26 : decode cX5_init 26 = .ok (.return_, 1) := by decide +kernel
set_option maxRecDepth 20000 in
theorem ggX6_init_X1_init : GoodIn wsX6_init wsX1_init := goodIn_r _ [19, 20, 2, 3, 21, 33] (by decide +kernel) (by decide +kernel)
set_option maxRecDepth 20000 in
theorem gX6_init_X1_init_n9 : GoodIn wsX6_init (wsX1_init) := ggX6_init_X1_init
set_option maxRecDepth 20000 in
theorem ggX6_init_X5_init : GoodIn wsX6_init wsX5_init := goodIn_r _ [23, 24, 2, 3, 25, 26, 27, 28, 44, 45, 46, 47] (by decide +kernel) (by decide +kernel)
set_option maxRecDepth 20000 in
theorem gX6_init_X5_init_n18 : GoodIn wsX6_init (wsX5_init) := ggX6_init_X5_init
set_option maxRecDepth 20000 in
theorem ggX6_init_J7_fill_53178 : GoodIn wsX6_init wsJ7_fill_53178 := goodIn_r _ [32] (by decide +kernel) (by decide +kernel)
set_option maxRecDepth 20000 in
theorem gX6_init_J7_fill_53178 : GoodIn wsX6_init (va_wsS RX6 33 yJ7_fill_53178 wsJ7_fill_53178) := goodIn_app (goodIn_of _ (by decide +kernel)) ggX6_init_J7_fill_53178
theorem dX6_init_0 : decode cX6_init 0 = .ok (.aload_n 0, 1) := by decide +kernel
theorem dX6_init_1 : decode cX6_init 1 = .ok (.invokespecial 1, 3) := by decide +kernel
theorem dX6_init_4 : decode cX6_init 4 = .ok (.aload_n 0, 1) := by decide +kernel
theorem dX6_init_5 : decode cX6_init 5 = .ok (.new 7, 3) := by decide +kernel
theorem dX6_init_8 : decode cX6_init 8 = .ok (.dup, 1) := by decide +kernel
theorem dX6_init_9 : decode cX6_init 9 = .ok (.invokespecial 9, 3) := by decide +kernel
theorem dX6_init_12 : decode cX6_init 12 = .ok (.putfield 10, 3) := by decide +kernel
theorem dX6_init_15 : decode cX6_init 15 = .ok (.aload_n 0, 1) := by decide +kernel
theorem dX6_init_16 : decode cX6_init 16 = .ok (.new 16, 3) := by decide +kernel
theorem dX6_init_19 : decode cX6_init 19 = .ok (.dup, 1) := by decide +kernel
theorem dX6_init_20 : decode cX6_init 20 = .ok (.invokespecial 18, 3) := by decide +kernel
theorem dX6_init_23 : decode cX6_init 23 = .ok (.putfield 19, 3) := by decide +kernel
theorem dX6_init_26 : decode cX6_init 26 = .ok (.aload_n 0, 1) := by decide +kernel
theorem dX6_init_27 : decode cX6_init 27 = .ok (.bipush 12, 2) := by decide +kernel
theorem dX6_init_29 : decode cX6_init 29 = .ok (.anewarray 23, 3) := by decide +kernel
theorem dX6_init_32 : decode cX6_init 32 = .ok (.putfield 25, 3) := by decide +kernel
theorem dX6_init_35 : decode cX6_init 35 = .ok (.aload_n 0, 1) := by decide +kernel
theorem dX6_init_36 : decode cX6_init 36 = .ok (.sipush 144, 3) := by decide +kernel
theorem dX6_init_39 : decode cX6_init 39 = .ok (.newarray .int, 2) := by decide +kernel
theorem dX6_init_41 : decode cX6_init 41 = .ok (.putfield 29, 3) := by decide +kernel
theorem dX6_init_44 : decode cX6_init 44 = .ok (.aload_n 0, 1) := by decide +kernel
theorem dX6_init_45 : decode cX6_init 45 = .ok (.getfield 29, 3) := by decide +kernel
theorem dX6_init_48 : decode cX6_init 48 = .ok (.iconst (-1), 1) := by decide +kernel
theorem dX6_init_49 : decode cX6_init 49 = .ok (.invokestatic 33, 3) := by decide +kernel
theorem dX6_init_52 : decode cX6_init 52 = .ok (.aload_n 0, 1) := by decide +kernel
theorem dX6_init_53 : decode cX6_init 53 = .ok (.bipush 12, 2) := by decide +kernel
theorem dX6_init_55 : decode cX6_init 55 = .ok (.newarray .int, 2) := by decide +kernel
theorem dX6_init_57 : decode cX6_init 57 = .ok (.putfield 39, 3) := by decide +kernel
theorem dX6_init_60 : decode cX6_init 60 = .ok (.aload_n 0, 1) := by decide +kernel
theorem dX6_init_61 : decode cX6_init 61 = .ok (.iconst (-1), 1) := by decide +kernel
theorem dX6_init_62 : decode cX6_init 62 = .ok (.putfield 42, 3) := by decide +kernel
theorem dX6_init_65 : decode cX6_init 65 = .ok (.return_, 1) := by decide +kernel
theorem dX6_seed_0 : decode cX6_seed 0 = .ok (.aload_n 0, 1) := by decide +kernel
theorem dX6_seed_1 : decode cX6_seed 1 = .ok (.getfield 10, 3) := by decide +kernel
theorem dX6_seed_4 : decode cX6_seed 4 = .ok (.iload_n 1, 1) := by decide +kernel
theorem dX6_seed_5 : decode cX6_seed 5 = .ok (.putfield 46, 3) := by decide +kernel
theorem dX6_seed_8 : decode cX6_seed 8 = .ok (.return_, 1) := by decide +kernel
set_option maxRecDepth 20000 in
theorem ggX6_rules_X6_within : GoodIn wsX6_rules wsX6_within := goodIn_r _ [6] (by decide +kernel) (by decide +kernel)
set_option maxRecDepth 20000 in
theorem gX6_rules_X6_within : GoodIn wsX6_rules (va_wsS RX6 49 yX6_within wsX6_within) := goodIn_app (goodIn_of _ (by decide +kernel)) ggX6_rules_X6_within
theorem dX6_rules_0 : decode cX6_rules 0 = .ok (.iload_n 1, 1) := by decide +kernel
theorem dX6_rules_1 : decode cX6_rules 1 = .ok (.iconst 1, 1) := by decide +kernel
theorem dX6_rules_2 : decode cX6_rules 2 = .ok (.bipush 9, 2) := by decide +kernel
theorem dX6_rules_4 : decode cX6_rules 4 = .ok (.invokestatic 49, 3) := by decide +kernel
theorem dX6_rules_7 : decode cX6_rules 7 = .ok (.ifCond .eq 39, 3) := by decide +kernel
theorem dX6_rules_10 : decode cX6_rules 10 = .ok (.iload_n 2, 1) := by decide +kernel
theorem dX6_rules_11 : decode cX6_rules 11 = .ok (.iconst 2, 1) := by decide +kernel
theorem dX6_rules_12 : decode cX6_rules 12 = .ok (.bipush 64, 2) := by decide +kernel
theorem dX6_rules_14 : decode cX6_rules 14 = .ok (.invokestatic 49, 3) := by decide +kernel
theorem dX6_rules_17 : decode cX6_rules 17 = .ok (.ifCond .eq 29, 3) := by decide +kernel
theorem dX6_rules_20 : decode cX6_rules 20 = .ok (.iload_n 3, 1) := by decide +kernel
theorem dX6_rules_21 : decode cX6_rules 21 = .ok (.iload_n 2, 1) := by decide +kernel
theorem dX6_rules_22 : decode cX6_rules 22 = .ok (.sipush 1024, 3) := by decide +kernel
theorem dX6_rules_25 : decode cX6_rules 25 = .ok (.invokestatic 49, 3) := by decide +kernel
theorem dX6_rules_28 : decode cX6_rules 28 = .ok (.ifCond .eq 18, 3) := by decide +kernel
theorem dX6_rules_31 : decode cX6_rules 31 = .ok (.iload 4, 2) := by decide +kernel
theorem dX6_rules_33 : decode cX6_rules 33 = .ok (.iconst 1, 1) := by decide +kernel
theorem dX6_rules_34 : decode cX6_rules 34 = .ok (.bipush 32, 2) := by decide +kernel
theorem dX6_rules_36 : decode cX6_rules 36 = .ok (.invokestatic 49, 3) := by decide +kernel
theorem dX6_rules_39 : decode cX6_rules 39 = .ok (.ifCond .eq 7, 3) := by decide +kernel
theorem dX6_rules_42 : decode cX6_rules 42 = .ok (.iconst 1, 1) := by decide +kernel
theorem dX6_rules_43 : decode cX6_rules 43 = .ok (.goto 4, 3) := by decide +kernel
theorem dX6_rules_46 : decode cX6_rules 46 = .ok (.iconst 0, 1) := by decide +kernel
theorem dX6_rules_47 : decode cX6_rules 47 = .ok (.istore 5, 2) := by decide +kernel
theorem dX6_rules_49 : decode cX6_rules 49 = .ok (.iload 5, 2) := by decide +kernel
theorem dX6_rules_51 : decode cX6_rules 51 = .ok (.ifCond .eq 10, 3) := by decide +kernel
theorem dX6_rules_54 : decode cX6_rules 54 = .ok (.aload_n 0, 1) := by decide +kernel
theorem dX6_rules_55 : decode cX6_rules 55 = .ok (.getfield 53, 3) := by decide +kernel
theorem dX6_rules_58 : decode cX6_rules 58 = .ok (.ifCond .le 5, 3) := by decide +kernel
theorem dX6_rules_61 : decode cX6_rules 61 = .ok (.iconst 0, 1) := by decide +kernel
theorem dX6_rules_62 : decode cX6_rules 62 = .ok (.ireturn, 1) := by decide +kernel
theorem dX6_rules_63 : decode cX6_rules 63 = .ok (.aload_n 0, 1) := by decide +kernel
theorem dX6_rules_64 : decode cX6_rules 64 = .ok (.getfield 19, 3) := by decide +kernel
theorem dX6_rules_67 : decode cX6_rules 67 = .ok (.iload_n 1, 1) := by decide +kernel
theorem dX6_rules_68 : decode cX6_rules 68 = .ok (.putfield 56, 3) := by decide +kernel
theorem dX6_rules_71 : decode cX6_rules 71 = .ok (.aload_n 0, 1) := by decide +kernel
theorem dX6_rules_72 : decode cX6_rules 72 = .ok (.getfield 19, 3) := by decide +kernel
theorem dX6_rules_75 : decode cX6_rules 75 = .ok (.iload_n 2, 1) := by decide +kernel
theorem dX6_rules_76 : decode cX6_rules 76 = .ok (.putfield 59, 3) := by decide +kernel
theorem dX6_rules_79 : decode cX6_rules 79 = .ok (.aload_n 0, 1) := by decide +kernel
theorem dX6_rules_80 : decode cX6_rules 80 = .ok (.getfield 19, 3) := by decide +kernel
theorem dX6_rules_83 : decode cX6_rules 83 = .ok (.iload_n 3, 1) := by decide +kernel
theorem dX6_rules_84 : decode cX6_rules 84 = .ok (.putfield 62, 3) := by decide +kernel
theorem dX6_rules_87 : decode cX6_rules 87 = .ok (.aload_n 0, 1) := by decide +kernel
theorem dX6_rules_88 : decode cX6_rules 88 = .ok (.getfield 19, 3) := by decide +kernel
theorem dX6_rules_91 : decode cX6_rules 91 = .ok (.iload 4, 2) := by decide +kernel
theorem dX6_rules_93 : decode cX6_rules 93 = .ok (.putfield 65, 3) := by decide +kernel
theorem dX6_rules_96 : decode cX6_rules 96 = .ok (.iconst 1, 1) := by decide +kernel
theorem dX6_rules_97 : decode cX6_rules 97 = .ok (.ireturn, 1) := by decide +kernel
set_option maxRecDepth 20000 in
theorem ggX6_machine_X4_init : GoodIn wsX6_machine wsX4_init := goodIn_r _ [11, 12, 13, 14, 15, 16, 17, 18, 19, 20, 21, 22, 23, 24, 25, 26, 27, 28, 29, 30, 31, 32, 33, 34, 35, 36, 37, 38, 39, 40, 41, 89, 90, 91, 67, 68, 69, 70, 71, 72, 73, 74, 75, 76, 77, 78, 79, 80, 81, 82, 83, 84, 92, 93, 94, 95, 96, 97, 98, 99, 100, 101, 102, 103, 104] (by decide +kernel) (by decide +kernel)
set_option maxRecDepth 20000 in
theorem gX6_machine_X4_init : GoodIn wsX6_machine (wsX4_init) := ggX6_machine_X4_init
set_option maxRecDepth 20000 in
theorem ggX6_machine_X2_begin : GoodIn wsX6_machine wsX2_begin := goodIn_r _ [45, 46, 47, 48, 49, 50, 51, 52, 53, 54, 55, 56, 92, 93, 94, 95, 105] (by decide +kernel) (by decide +kernel)
set_option maxRecDepth 20000 in
theorem gX6_machine_X2_begin : GoodIn wsX6_machine (wsV RX6 78 RX2 yX2_begin wsX2_begin) := goodIn_app (goodIn_of _ (by decide +kernel)) ggX6_machine_X2_begin
theorem dX6_machine_0 : decode cX6_machine 0 = .ok (.aload_n 0, 1) := by decide +kernel
theorem dX6_machine_1 : decode cX6_machine 1 = .ok (.getfield 53, 3) := by decide +kernel
theorem dX6_machine_4 : decode cX6_machine 4 = .ok (.istore_n 1, 1) := by decide +kernel
theorem dX6_machine_5 : decode cX6_machine 5 = .ok (.iload_n 1, 1) := by decide +kernel
theorem dX6_machine_6 : decode cX6_machine 6 = .ok (.ifCond .lt 12, 3) := by decide +kernel
theorem dX6_machine_9 : decode cX6_machine 9 = .ok (.iload_n 1, 1) := by decide +kernel
theorem dX6_machine_10 : decode cX6_machine 10 = .ok (.aload_n 0, 1) := by decide +kernel
theorem dX6_machine_11 : decode cX6_machine 11 = .ok (.getfield 25, 3) := by decide +kernel
theorem dX6_machine_14 : decode cX6_machine 14 = .ok (.arraylength, 1) := by decide +kernel
theorem dX6_machine_15 : decode cX6_machine 15 = .ok (.if_icmp .lt 5, 3) := by decide +kernel
theorem dX6_machine_18 : decode cX6_machine 18 = .ok (.iconst (-1), 1) := by decide +kernel
theorem dX6_machine_19 : decode cX6_machine 19 = .ok (.ireturn, 1) := by decide +kernel
theorem dX6_machine_20 : decode cX6_machine 20 = .ok (.new 23, 3) := by decide +kernel
theorem dX6_machine_23 : decode cX6_machine 23 = .ok (.dup, 1) := by decide +kernel
theorem dX6_machine_24 : decode cX6_machine 24 = .ok (.aload_n 0, 1) := by decide +kernel
theorem dX6_machine_25 : decode cX6_machine 25 = .ok (.getfield 19, 3) := by decide +kernel
theorem dX6_machine_28 : decode cX6_machine 28 = .ok (.aload_n 0, 1) := by decide +kernel
theorem dX6_machine_29 : decode cX6_machine 29 = .ok (.getfield 10, 3) := by decide +kernel
theorem dX6_machine_32 : decode cX6_machine 32 = .ok (.invokespecial 68, 3) := by decide +kernel
theorem dX6_machine_35 : decode cX6_machine 35 = .ok (.astore_n 2, 1) := by decide +kernel
theorem dX6_machine_36 : decode cX6_machine 36 = .ok (.aload_n 2, 1) := by decide +kernel
theorem dX6_machine_37 : decode cX6_machine 37 = .ok (.getfield 71, 3) := by decide +kernel
theorem dX6_machine_40 : decode cX6_machine 40 = .ok (.aload_n 0, 1) := by decide +kernel
theorem dX6_machine_41 : decode cX6_machine 41 = .ok (.getfield 19, 3) := by decide +kernel
theorem dX6_machine_44 : decode cX6_machine 44 = .ok (.getfield 59, 3) := by decide +kernel
theorem dX6_machine_47 : decode cX6_machine 47 = .ok (.aload_n 0, 1) := by decide +kernel
theorem dX6_machine_48 : decode cX6_machine 48 = .ok (.getfield 75, 3) := by decide +kernel
theorem dX6_machine_51 : decode cX6_machine 51 = .ok (.aload_n 0, 1) := by decide +kernel
theorem dX6_machine_52 : decode cX6_machine 52 = .ok (.getfield 10, 3) := by decide +kernel
theorem dX6_machine_55 : decode cX6_machine 55 = .ok (.invokevirtual 78, 3) := by decide +kernel
theorem dX6_machine_58 : decode cX6_machine 58 = .ok (.aload_n 0, 1) := by decide +kernel
theorem dX6_machine_59 : decode cX6_machine 59 = .ok (.getfield 25, 3) := by decide +kernel
theorem dX6_machine_62 : decode cX6_machine 62 = .ok (.iload_n 1, 1) := by decide +kernel
theorem dX6_machine_63 : decode cX6_machine 63 = .ok (.aload_n 2, 1) := by decide +kernel
theorem dX6_machine_64 : decode cX6_machine 64 = .ok (.aastore, 1) := by decide +kernel
theorem dX6_machine_65 : decode cX6_machine 65 = .ok (.aload_n 0, 1) := by decide +kernel
theorem dX6_machine_66 : decode cX6_machine 66 = .ok (.iload_n 1, 1) := by decide +kernel
theorem dX6_machine_67 : decode cX6_machine 67 = .ok (.iconst 1, 1) := by decide +kernel
theorem dX6_machine_68 : decode cX6_machine 68 = .ok (.iadd, 1) := by decide +kernel
theorem dX6_machine_69 : decode cX6_machine 69 = .ok (.putfield 53, 3) := by decide +kernel
theorem dX6_machine_72 : decode cX6_machine 72 = .ok (.iload_n 1, 1) := by decide +kernel
theorem dX6_machine_73 : decode cX6_machine 73 = .ok (.ireturn, 1) := by decide +kernel
set_option maxRecDepth 20000 in
theorem ggX6_hears_X6_machineAt : GoodIn wsX6_hears wsX6_machineAt := goodIn_r _ [6, 7, 8, 16, 17, 18, 19, 20, 21, 22, 23, 24, 25] (by decide +kernel) (by decide +kernel)
set_option maxRecDepth 20000 in
theorem gX6_hears_X6_machineAt : GoodIn wsX6_hears (wsV RX6 84 RX6 yX6_machineAt wsX6_machineAt) := goodIn_app (goodIn_of _ (by decide +kernel)) ggX6_hears_X6_machineAt
set_option maxRecDepth 20000 in
theorem ggX6_hears_X6_within : GoodIn wsX6_hears wsX6_within := goodIn_r _ [11] (by decide +kernel) (by decide +kernel)
set_option maxRecDepth 20000 in
theorem gX6_hears_X6_within : GoodIn wsX6_hears (va_wsS RX6 49 yX6_within wsX6_within) := goodIn_app (goodIn_of _ (by decide +kernel)) ggX6_hears_X6_within
set_option maxRecDepth 20000 in
theorem ggX6_hears_X6_pairOf : GoodIn wsX6_hears wsX6_pairOf := goodIn_r _ [15, 1, 9, 10, 5, 11, 16, 17, 18, 19, 20, 21, 22, 23, 24, 25] (by decide +kernel) (by decide +kernel)
set_option maxRecDepth 20000 in
theorem gX6_hears_X6_pairOf : GoodIn wsX6_hears (wsV RX6 88 RX6 yX6_pairOf wsX6_pairOf) := goodIn_app (goodIn_of _ (by decide +kernel)) ggX6_hears_X6_pairOf
theorem dX6_hears_0 : decode cX6_hears 0 = .ok (.aload_n 0, 1) := by decide +kernel
theorem dX6_hears_1 : decode cX6_hears 1 = .ok (.iload_n 1, 1) := by decide +kernel
theorem dX6_hears_2 : decode cX6_hears 2 = .ok (.invokevirtual 84, 3) := by decide +kernel
theorem dX6_hears_5 : decode cX6_hears 5 = .ok (.ifnull 26, 3) := by decide +kernel
theorem dX6_hears_8 : decode cX6_hears 8 = .ok (.aload_n 0, 1) := by decide +kernel
theorem dX6_hears_9 : decode cX6_hears 9 = .ok (.iload_n 2, 1) := by decide +kernel
theorem dX6_hears_10 : decode cX6_hears 10 = .ok (.invokevirtual 84, 3) := by decide +kernel
theorem dX6_hears_13 : decode cX6_hears 13 = .ok (.ifnull 18, 3) := by decide +kernel
theorem dX6_hears_16 : decode cX6_hears 16 = .ok (.iload_n 1, 1) := by decide +kernel
theorem dX6_hears_17 : decode cX6_hears 17 = .ok (.iload_n 2, 1) := by decide +kernel
theorem dX6_hears_18 : decode cX6_hears 18 = .ok (.if_icmp .eq 13, 3) := by decide +kernel
theorem dX6_hears_21 : decode cX6_hears 21 = .ok (.iload_n 3, 1) := by decide +kernel
theorem dX6_hears_22 : decode cX6_hears 22 = .ok (.iconst (-1), 1) := by decide +kernel
theorem dX6_hears_23 : decode cX6_hears 23 = .ok (.bipush 100, 2) := by decide +kernel
theorem dX6_hears_25 : decode cX6_hears 25 = .ok (.invokestatic 49, 3) := by decide +kernel
theorem dX6_hears_28 : decode cX6_hears 28 = .ok (.ifCond .ne 5, 3) := by decide +kernel
theorem dX6_hears_31 : decode cX6_hears 31 = .ok (.iconst 0, 1) := by decide +kernel
theorem dX6_hears_32 : decode cX6_hears 32 = .ok (.ireturn, 1) := by decide +kernel
theorem dX6_hears_33 : decode cX6_hears 33 = .ok (.aload_n 0, 1) := by decide +kernel
theorem dX6_hears_34 : decode cX6_hears 34 = .ok (.iload_n 1, 1) := by decide +kernel
theorem dX6_hears_35 : decode cX6_hears 35 = .ok (.iload_n 2, 1) := by decide +kernel
theorem dX6_hears_36 : decode cX6_hears 36 = .ok (.invokevirtual 88, 3) := by decide +kernel
theorem dX6_hears_39 : decode cX6_hears 39 = .ok (.istore 4, 2) := by decide +kernel
theorem dX6_hears_41 : decode cX6_hears 41 = .ok (.iload 4, 2) := by decide +kernel
theorem dX6_hears_43 : decode cX6_hears 43 = .ok (.iconst (-1), 1) := by decide +kernel
theorem dX6_hears_44 : decode cX6_hears 44 = .ok (.if_icmp .ne 5, 3) := by decide +kernel
theorem dX6_hears_47 : decode cX6_hears 47 = .ok (.iconst 0, 1) := by decide +kernel
theorem dX6_hears_48 : decode cX6_hears 48 = .ok (.ireturn, 1) := by decide +kernel
theorem dX6_hears_49 : decode cX6_hears 49 = .ok (.aload_n 0, 1) := by decide +kernel
theorem dX6_hears_50 : decode cX6_hears 50 = .ok (.getfield 29, 3) := by decide +kernel
theorem dX6_hears_53 : decode cX6_hears 53 = .ok (.iload 4, 2) := by decide +kernel
theorem dX6_hears_55 : decode cX6_hears 55 = .ok (.iload_n 3, 1) := by decide +kernel
theorem dX6_hears_56 : decode cX6_hears 56 = .ok (.iastore, 1) := by decide +kernel
theorem dX6_hears_57 : decode cX6_hears 57 = .ok (.iconst 1, 1) := by decide +kernel
theorem dX6_hears_58 : decode cX6_hears 58 = .ok (.ireturn, 1) := by decide +kernel
theorem dX6_piece_0 : decode cX6_piece 0 = .ok (.aload_n 0, 1) := by decide +kernel
theorem dX6_piece_1 : decode cX6_piece 1 = .ok (.getfield 92, 3) := by decide +kernel
theorem dX6_piece_4 : decode cX6_piece 4 = .ok (.ifCond .lt 15, 3) := by decide +kernel
theorem dX6_piece_7 : decode cX6_piece 7 = .ok (.aload_n 0, 1) := by decide +kernel
theorem dX6_piece_8 : decode cX6_piece 8 = .ok (.getfield 92, 3) := by decide +kernel
theorem dX6_piece_11 : decode cX6_piece 11 = .ok (.aload_n 0, 1) := by decide +kernel
theorem dX6_piece_12 : decode cX6_piece 12 = .ok (.getfield 39, 3) := by decide +kernel
theorem dX6_piece_15 : decode cX6_piece 15 = .ok (.arraylength, 1) := by decide +kernel
theorem dX6_piece_16 : decode cX6_piece 16 = .ok (.if_icmp .lt 5, 3) := by decide +kernel
theorem dX6_piece_19 : decode cX6_piece 19 = .ok (.iconst (-1), 1) := by decide +kernel
theorem dX6_piece_20 : decode cX6_piece 20 = .ok (.ireturn, 1) := by decide +kernel
theorem dX6_piece_21 : decode cX6_piece 21 = .ok (.aload_n 0, 1) := by decide +kernel
theorem dX6_piece_22 : decode cX6_piece 22 = .ok (.getfield 39, 3) := by decide +kernel
theorem dX6_piece_25 : decode cX6_piece 25 = .ok (.aload_n 0, 1) := by decide +kernel
theorem dX6_piece_26 : decode cX6_piece 26 = .ok (.getfield 92, 3) := by decide +kernel
theorem dX6_piece_29 : decode cX6_piece 29 = .ok (.iload_n 1, 1) := by decide +kernel
theorem dX6_piece_30 : decode cX6_piece 30 = .ok (.iastore, 1) := by decide +kernel
theorem dX6_piece_31 : decode cX6_piece 31 = .ok (.aload_n 0, 1) := by decide +kernel
theorem dX6_piece_32 : decode cX6_piece 32 = .ok (.dup, 1) := by decide +kernel
theorem dX6_piece_33 : decode cX6_piece 33 = .ok (.getfield 92, 3) := by decide +kernel
theorem dX6_piece_36 : decode cX6_piece 36 = .ok (.iconst 1, 1) := by decide +kernel
theorem dX6_piece_37 : decode cX6_piece 37 = .ok (.iadd, 1) := by decide +kernel
theorem dX6_piece_38 : decode cX6_piece 38 = .ok (.putfield 92, 3) := by decide +kernel
theorem dX6_piece_41 : decode cX6_piece 41 = .ok (.aload_n 0, 1) := by decide +kernel
theorem dX6_piece_42 : decode cX6_piece 42 = .ok (.getfield 92, 3) := by decide +kernel
theorem dX6_piece_45 : decode cX6_piece 45 = .ok (.ireturn, 1) := by decide +kernel
set_option maxRecDepth 20000 in
theorem ggX6_load_X6_machineAt : GoodIn wsX6_load wsX6_machineAt := goodIn_r _ [10, 11, 12, 78, 79, 80, 81, 82, 83, 84, 85, 86, 87] (by decide +kernel) (by decide +kernel)
set_option maxRecDepth 20000 in
theorem gX6_load_X6_machineAt : GoodIn wsX6_load (wsV RX6 84 RX6 yX6_machineAt wsX6_machineAt) := goodIn_app (goodIn_of _ (by decide +kernel)) ggX6_load_X6_machineAt
set_option maxRecDepth 20000 in
theorem ggX6_load_X6_within : GoodIn wsX6_load wsX6_within := goodIn_r _ [15] (by decide +kernel) (by decide +kernel)
set_option maxRecDepth 20000 in
theorem gX6_load_X6_within : GoodIn wsX6_load (va_wsS RX6 49 yX6_within wsX6_within) := goodIn_app (goodIn_of _ (by decide +kernel)) ggX6_load_X6_within
set_option maxRecDepth 20000 in
theorem ggX6_load_X4_keepWhole : GoodIn wsX6_load wsX4_keepWhole := goodIn_r _ [20, 21, 22, 23, 24, 25, 19, 26, 27, 28, 29, 30, 31, 32, 33, 34, 35, 36, 37, 38, 39, 40, 41, 42, 43, 44, 45, 46, 47, 48, 49, 50, 51, 52, 53, 54, 88, 89, 90, 91, 92, 93, 94, 95, 96, 97, 98, 99, 100, 101, 102, 103, 104, 105, 106, 107, 108] (by decide +kernel) (by decide +kernel)
set_option maxRecDepth 20000 in
theorem gX6_load_X4_keepWhole : GoodIn wsX6_load (wsV RX6 98 RX4 yX4_keepWhole wsX4_keepWhole) := goodIn_app (goodIn_of _ (by decide +kernel)) ggX6_load_X4_keepWhole
set_option maxRecDepth 20000 in
theorem ggX6_load_X4_stir : GoodIn wsX6_load wsX4_stir := goodIn_r _ [58, 59, 60, 61, 62, 63, 64, 65, 66, 67, 68, 69, 70, 71, 72, 73, 74, 75, 76, 77, 88, 89, 90, 91, 92, 93, 94, 95, 96, 97, 98, 99, 100, 101, 102, 103, 104, 105, 109, 110, 111, 112, 113, 114, 115, 116, 117] (by decide +kernel) (by decide +kernel)
set_option maxRecDepth 20000 in
theorem gX6_load_X4_stir : GoodIn wsX6_load (wsV RX6 102 RX4 yX4_stir wsX4_stir) := goodIn_app (goodIn_of _ (by decide +kernel)) ggX6_load_X4_stir
theorem dX6_load_0 : decode cX6_load 0 = .ok (.aload_n 0, 1) := by decide +kernel
theorem dX6_load_1 : decode cX6_load 1 = .ok (.iload_n 1, 1) := by decide +kernel
theorem dX6_load_2 : decode cX6_load 2 = .ok (.invokevirtual 84, 3) := by decide +kernel
theorem dX6_load_5 : decode cX6_load 5 = .ok (.astore_n 3, 1) := by decide +kernel
theorem dX6_load_6 : decode cX6_load 6 = .ok (.aload_n 3, 1) := by decide +kernel
theorem dX6_load_7 : decode cX6_load 7 = .ok (.ifnull 29, 3) := by decide +kernel
theorem dX6_load_10 : decode cX6_load 10 = .ok (.aload_n 0, 1) := by decide +kernel
theorem dX6_load_11 : decode cX6_load 11 = .ok (.getfield 92, 3) := by decide +kernel
theorem dX6_load_14 : decode cX6_load 14 = .ok (.ifCond .eq 22, 3) := by decide +kernel
theorem dX6_load_17 : decode cX6_load 17 = .ok (.iload_n 2, 1) := by decide +kernel
theorem dX6_load_18 : decode cX6_load 18 = .ok (.iconst 1, 1) := by decide +kernel
theorem dX6_load_19 : decode cX6_load 19 = .ok (.sipush 9999, 3) := by decide +kernel
theorem dX6_load_22 : decode cX6_load 22 = .ok (.invokestatic 49, 3) := by decide +kernel
theorem dX6_load_25 : decode cX6_load 25 = .ok (.ifCond .eq 11, 3) := by decide +kernel
theorem dX6_load_28 : decode cX6_load 28 = .ok (.iload_n 2, 1) := by decide +kernel
theorem dX6_load_29 : decode cX6_load 29 = .ok (.aload_n 3, 1) := by decide +kernel
theorem dX6_load_30 : decode cX6_load 30 = .ok (.getfield 95, 3) := by decide +kernel
theorem dX6_load_33 : decode cX6_load 33 = .ok (.if_icmp .gt 5, 3) := by decide +kernel
theorem dX6_load_36 : decode cX6_load 36 = .ok (.iconst (-1), 1) := by decide +kernel
theorem dX6_load_37 : decode cX6_load 37 = .ok (.ireturn, 1) := by decide +kernel
theorem dX6_load_38 : decode cX6_load 38 = .ok (.aload_n 3, 1) := by decide +kernel
theorem dX6_load_39 : decode cX6_load 39 = .ok (.iload_n 2, 1) := by decide +kernel
theorem dX6_load_40 : decode cX6_load 40 = .ok (.aload_n 0, 1) := by decide +kernel
theorem dX6_load_41 : decode cX6_load 41 = .ok (.getfield 39, 3) := by decide +kernel
theorem dX6_load_44 : decode cX6_load 44 = .ok (.aload_n 0, 1) := by decide +kernel
theorem dX6_load_45 : decode cX6_load 45 = .ok (.getfield 92, 3) := by decide +kernel
theorem dX6_load_48 : decode cX6_load 48 = .ok (.invokevirtual 98, 3) := by decide +kernel
theorem dX6_load_51 : decode cX6_load 51 = .ok (.aload_n 3, 1) := by decide +kernel
theorem dX6_load_52 : decode cX6_load 52 = .ok (.aload_n 0, 1) := by decide +kernel
theorem dX6_load_53 : decode cX6_load 53 = .ok (.getfield 75, 3) := by decide +kernel
theorem dX6_load_56 : decode cX6_load 56 = .ok (.invokevirtual 102, 3) := by decide +kernel
theorem dX6_load_59 : decode cX6_load 59 = .ok (.aload_n 0, 1) := by decide +kernel
theorem dX6_load_60 : decode cX6_load 60 = .ok (.iconst 0, 1) := by decide +kernel
theorem dX6_load_61 : decode cX6_load 61 = .ok (.putfield 92, 3) := by decide +kernel
theorem dX6_load_64 : decode cX6_load 64 = .ok (.iload_n 2, 1) := by decide +kernel
theorem dX6_load_65 : decode cX6_load 65 = .ok (.aload_n 0, 1) := by decide +kernel
theorem dX6_load_66 : decode cX6_load 66 = .ok (.getfield 106, 3) := by decide +kernel
theorem dX6_load_69 : decode cX6_load 69 = .ok (.if_icmp .le 13, 3) := by decide +kernel
theorem dX6_load_72 : decode cX6_load 72 = .ok (.aload_n 0, 1) := by decide +kernel
theorem dX6_load_73 : decode cX6_load 73 = .ok (.iload_n 2, 1) := by decide +kernel
theorem dX6_load_74 : decode cX6_load 74 = .ok (.putfield 106, 3) := by decide +kernel
theorem dX6_load_77 : decode cX6_load 77 = .ok (.aload_n 0, 1) := by decide +kernel
theorem dX6_load_78 : decode cX6_load 78 = .ok (.iconst (-1), 1) := by decide +kernel
theorem dX6_load_79 : decode cX6_load 79 = .ok (.putfield 42, 3) := by decide +kernel
theorem dX6_load_82 : decode cX6_load 82 = .ok (.aload_n 3, 1) := by decide +kernel
theorem dX6_load_83 : decode cX6_load 83 = .ok (.getfield 109, 3) := by decide +kernel
theorem dX6_load_86 : decode cX6_load 86 = .ok (.getfield 113, 3) := by decide +kernel
theorem dX6_load_89 : decode cX6_load 89 = .ok (.ireturn, 1) := by decide +kernel
set_option maxRecDepth 20000 in
theorem ggX6_turn_X6_machineAt : GoodIn wsX6_turn wsX6_machineAt := goodIn_r _ [6, 7, 8, 19, 20, 21, 22, 23, 24, 25, 26, 27, 28] (by decide +kernel) (by decide +kernel)
set_option maxRecDepth 20000 in
theorem gX6_turn_X6_machineAt : GoodIn wsX6_turn (wsV RX6 84 RX6 yX6_machineAt wsX6_machineAt) := goodIn_app (goodIn_of _ (by decide +kernel)) ggX6_turn_X6_machineAt
set_option maxRecDepth 20000 in
theorem ggX6_turn_X6_within : GoodIn wsX6_turn wsX6_within := goodIn_r _ [11] (by decide +kernel) (by decide +kernel)
set_option maxRecDepth 20000 in
theorem gX6_turn_X6_within : GoodIn wsX6_turn (va_wsS RX6 49 yX6_within wsX6_within) := goodIn_app (goodIn_of _ (by decide +kernel)) ggX6_turn_X6_within
set_option maxRecDepth 20000 in
theorem ggX6_turn_X4_takeTurn : GoodIn wsX6_turn wsX4_takeTurn := goodIn_r _ [16, 17, 18, 29, 30, 31, 32, 33, 34, 35, 36, 37, 38, 39, 40, 41, 42, 43, 44, 45, 46] (by decide +kernel) (by decide +kernel)
set_option maxRecDepth 20000 in
theorem gX6_turn_X4_takeTurn : GoodIn wsX6_turn (wsV RX6 119 RX4 yX4_takeTurn wsX4_takeTurn) := goodIn_app (goodIn_of _ (by decide +kernel)) ggX6_turn_X4_takeTurn
theorem dX6_turn_0 : decode cX6_turn 0 = .ok (.aload_n 0, 1) := by decide +kernel
theorem dX6_turn_1 : decode cX6_turn 1 = .ok (.iload_n 1, 1) := by decide +kernel
theorem dX6_turn_2 : decode cX6_turn 2 = .ok (.invokevirtual 84, 3) := by decide +kernel
theorem dX6_turn_5 : decode cX6_turn 5 = .ok (.astore 4, 2) := by decide +kernel
theorem dX6_turn_7 : decode cX6_turn 7 = .ok (.aload 4, 2) := by decide +kernel
theorem dX6_turn_9 : decode cX6_turn 9 = .ok (.ifnull 24, 3) := by decide +kernel
theorem dX6_turn_12 : decode cX6_turn 12 = .ok (.iload_n 2, 1) := by decide +kernel
theorem dX6_turn_13 : decode cX6_turn 13 = .ok (.iconst 1, 1) := by decide +kernel
theorem dX6_turn_14 : decode cX6_turn 14 = .ok (.sipush 9999, 3) := by decide +kernel
theorem dX6_turn_17 : decode cX6_turn 17 = .ok (.invokestatic 49, 3) := by decide +kernel
theorem dX6_turn_20 : decode cX6_turn 20 = .ok (.ifCond .eq 13, 3) := by decide +kernel
theorem dX6_turn_23 : decode cX6_turn 23 = .ok (.iload_n 3, 1) := by decide +kernel
theorem dX6_turn_24 : decode cX6_turn 24 = .ok (.iconst 0, 1) := by decide +kernel
theorem dX6_turn_25 : decode cX6_turn 25 = .ok (.ldc 118, 2) := by decide +kernel
theorem dX6_turn_27 : decode cX6_turn 27 = .ok (.invokestatic 49, 3) := by decide +kernel
theorem dX6_turn_30 : decode cX6_turn 30 = .ok (.ifCond .ne 5, 3) := by decide +kernel
theorem dX6_turn_33 : decode cX6_turn 33 = .ok (.iconst 0, 1) := by decide +kernel
theorem dX6_turn_34 : decode cX6_turn 34 = .ok (.ireturn, 1) := by decide +kernel
theorem dX6_turn_35 : decode cX6_turn 35 = .ok (.aload 4, 2) := by decide +kernel
theorem dX6_turn_37 : decode cX6_turn 37 = .ok (.iload_n 2, 1) := by decide +kernel
theorem dX6_turn_38 : decode cX6_turn 38 = .ok (.iload_n 3, 1) := by decide +kernel
theorem dX6_turn_39 : decode cX6_turn 39 = .ok (.invokevirtual 119, 3) := by decide +kernel
theorem dX6_turn_42 : decode cX6_turn 42 = .ok (.ireturn, 1) := by decide +kernel
set_option maxRecDepth 20000 in
theorem ggX6_lie_X6_machineAt : GoodIn wsX6_lie wsX6_machineAt := goodIn_r _ [6, 7, 8, 89, 90, 91, 92, 93, 94, 95, 96, 97, 98] (by decide +kernel) (by decide +kernel)
set_option maxRecDepth 20000 in
theorem gX6_lie_X6_machineAt : GoodIn wsX6_lie (wsV RX6 84 RX6 yX6_machineAt wsX6_machineAt) := goodIn_app (goodIn_of _ (by decide +kernel)) ggX6_lie_X6_machineAt
set_option maxRecDepth 20000 in
theorem ggX6_lie_X6_within : GoodIn wsX6_lie wsX6_within := goodIn_r _ [11] (by decide +kernel) (by decide +kernel)
set_option maxRecDepth 20000 in
theorem gX6_lie_X6_within : GoodIn wsX6_lie (va_wsS RX6 49 yX6_within wsX6_within) := goodIn_app (goodIn_of _ (by decide +kernel)) ggX6_lie_X6_within
set_option maxRecDepth 20000 in
theorem ggX6_lie_X4_takeOwnMix : GoodIn wsX6_lie wsX4_takeOwnMix := goodIn_r _ [16, 17, 18, 19, 20, 21, 22, 23, 24, 25, 26, 27, 28, 29, 30, 31, 32, 33, 34, 35, 36, 37, 38, 39, 40, 41, 42, 43, 44, 45, 46, 47, 71, 72, 73, 74, 75, 76, 77, 78, 79, 80, 81, 82, 83, 84, 85, 86, 87, 88, 99, 100, 101] (by decide +kernel) (by decide +kernel)
set_option maxRecDepth 20000 in
theorem gX6_lie_X4_takeOwnMix : GoodIn wsX6_lie (wsV RX6 126 RX4 yX4_takeOwnMix wsX4_takeOwnMix) := goodIn_app (goodIn_of _ (by decide +kernel)) ggX6_lie_X4_takeOwnMix
set_option maxRecDepth 20000 in
theorem ggX6_lie_X4_stir : GoodIn wsX6_lie wsX4_stir := goodIn_r _ [51, 52, 53, 54, 55, 56, 57, 58, 59, 60, 61, 62, 63, 64, 65, 66, 67, 68, 69, 70, 71, 72, 73, 74, 75, 76, 77, 78, 79, 80, 81, 82, 83, 84, 85, 86, 87, 88, 102, 103, 104, 105, 106, 107, 108, 109, 110] (by decide +kernel) (by decide +kernel)
set_option maxRecDepth 20000 in
theorem gX6_lie_X4_stir : GoodIn wsX6_lie (wsV RX6 102 RX4 yX4_stir wsX4_stir) := goodIn_app (goodIn_of _ (by decide +kernel)) ggX6_lie_X4_stir
theorem dX6_lie_0 : decode cX6_lie 0 = .ok (.aload_n 0, 1) := by decide +kernel
theorem dX6_lie_1 : decode cX6_lie 1 = .ok (.iload_n 1, 1) := by decide +kernel
theorem dX6_lie_2 : decode cX6_lie 2 = .ok (.invokevirtual 84, 3) := by decide +kernel
theorem dX6_lie_5 : decode cX6_lie 5 = .ok (.astore 4, 2) := by decide +kernel
theorem dX6_lie_7 : decode cX6_lie 7 = .ok (.aload 4, 2) := by decide +kernel
theorem dX6_lie_9 : decode cX6_lie 9 = .ok (.ifnull 28, 3) := by decide +kernel
theorem dX6_lie_12 : decode cX6_lie 12 = .ok (.aload 4, 2) := by decide +kernel
theorem dX6_lie_14 : decode cX6_lie 14 = .ok (.getfield 95, 3) := by decide +kernel
theorem dX6_lie_17 : decode cX6_lie 17 = .ok (.ifCond .eq 20, 3) := by decide +kernel
theorem dX6_lie_20 : decode cX6_lie 20 = .ok (.iload_n 2, 1) := by decide +kernel
theorem dX6_lie_21 : decode cX6_lie 21 = .ok (.iconst 1, 1) := by decide +kernel
theorem dX6_lie_22 : decode cX6_lie 22 = .ok (.iconst 1, 1) := by decide +kernel
theorem dX6_lie_23 : decode cX6_lie 23 = .ok (.aload 4, 2) := by decide +kernel
theorem dX6_lie_25 : decode cX6_lie 25 = .ok (.getfield 123, 3) := by decide +kernel
theorem dX6_lie_28 : decode cX6_lie 28 = .ok (.ishl, 1) := by decide +kernel
theorem dX6_lie_29 : decode cX6_lie 29 = .ok (.iconst 1, 1) := by decide +kernel
theorem dX6_lie_30 : decode cX6_lie 30 = .ok (.isub, 1) := by decide +kernel
theorem dX6_lie_31 : decode cX6_lie 31 = .ok (.invokestatic 49, 3) := by decide +kernel
theorem dX6_lie_34 : decode cX6_lie 34 = .ok (.ifCond .ne 5, 3) := by decide +kernel
theorem dX6_lie_37 : decode cX6_lie 37 = .ok (.iconst 0, 1) := by decide +kernel
theorem dX6_lie_38 : decode cX6_lie 38 = .ok (.ireturn, 1) := by decide +kernel
theorem dX6_lie_39 : decode cX6_lie 39 = .ok (.aload 4, 2) := by decide +kernel
theorem dX6_lie_41 : decode cX6_lie 41 = .ok (.iload_n 2, 1) := by decide +kernel
theorem dX6_lie_42 : decode cX6_lie 42 = .ok (.iload_n 3, 1) := by decide +kernel
theorem dX6_lie_43 : decode cX6_lie 43 = .ok (.invokevirtual 126, 3) := by decide +kernel
theorem dX6_lie_46 : decode cX6_lie 46 = .ok (.ifCond .eq 12, 3) := by decide +kernel
theorem dX6_lie_49 : decode cX6_lie 49 = .ok (.aload 4, 2) := by decide +kernel
theorem dX6_lie_51 : decode cX6_lie 51 = .ok (.aload_n 0, 1) := by decide +kernel
theorem dX6_lie_52 : decode cX6_lie 52 = .ok (.getfield 75, 3) := by decide +kernel
theorem dX6_lie_55 : decode cX6_lie 55 = .ok (.invokevirtual 102, 3) := by decide +kernel
theorem dX6_lie_58 : decode cX6_lie 58 = .ok (.iconst 1, 1) := by decide +kernel
theorem dX6_lie_59 : decode cX6_lie 59 = .ok (.ireturn, 1) := by decide +kernel
set_option maxRecDepth 20000 in
theorem ggX6_cut_X6_machineAt : GoodIn wsX6_cut wsX6_machineAt := goodIn_r _ [6, 7, 8, 45, 46, 47, 48, 49, 50, 51, 52, 53, 54] (by decide +kernel) (by decide +kernel)
set_option maxRecDepth 20000 in
theorem gX6_cut_X6_machineAt : GoodIn wsX6_cut (wsV RX6 84 RX6 yX6_machineAt wsX6_machineAt) := goodIn_app (goodIn_of _ (by decide +kernel)) ggX6_cut_X6_machineAt
set_option maxRecDepth 20000 in
theorem ggX6_cut_X4_losePower : GoodIn wsX6_cut wsX4_losePower := goodIn_r _ [13, 14, 15, 16, 17, 18, 19, 20, 21, 22, 23, 24, 25, 26, 27, 28, 29, 30, 31, 32, 33, 34, 35, 36, 37, 38, 39, 40, 41, 42, 43, 44, 55, 56, 57, 58, 59, 60, 61, 62, 63, 64, 65, 66, 67, 68, 69, 70, 71, 72, 73, 74, 75, 76, 77, 78, 79, 80, 81, 82, 83, 84] (by decide +kernel) (by decide +kernel)
set_option maxRecDepth 20000 in
theorem gX6_cut_X4_losePower : GoodIn wsX6_cut (wsV RX6 129 RX4 yX4_losePower wsX4_losePower) := goodIn_app (goodIn_of _ (by decide +kernel)) ggX6_cut_X4_losePower
theorem dX6_cut_0 : decode cX6_cut 0 = .ok (.aload_n 0, 1) := by decide +kernel
theorem dX6_cut_1 : decode cX6_cut 1 = .ok (.iload_n 1, 1) := by decide +kernel
theorem dX6_cut_2 : decode cX6_cut 2 = .ok (.invokevirtual 84, 3) := by decide +kernel
theorem dX6_cut_5 : decode cX6_cut 5 = .ok (.astore_n 3, 1) := by decide +kernel
theorem dX6_cut_6 : decode cX6_cut 6 = .ok (.aload_n 3, 1) := by decide +kernel
theorem dX6_cut_7 : decode cX6_cut 7 = .ok (.ifnonnull 5, 3) := by decide +kernel
theorem dX6_cut_10 : decode cX6_cut 10 = .ok (.iconst 0, 1) := by decide +kernel
theorem dX6_cut_11 : decode cX6_cut 11 = .ok (.ireturn, 1) := by decide +kernel
theorem dX6_cut_12 : decode cX6_cut 12 = .ok (.aload_n 3, 1) := by decide +kernel
theorem dX6_cut_13 : decode cX6_cut 13 = .ok (.iload_n 2, 1) := by decide +kernel
theorem dX6_cut_14 : decode cX6_cut 14 = .ok (.aload_n 0, 1) := by decide +kernel
theorem dX6_cut_15 : decode cX6_cut 15 = .ok (.getfield 75, 3) := by decide +kernel
theorem dX6_cut_18 : decode cX6_cut 18 = .ok (.invokevirtual 129, 3) := by decide +kernel
theorem dX6_cut_21 : decode cX6_cut 21 = .ok (.iconst 1, 1) := by decide +kernel
theorem dX6_cut_22 : decode cX6_cut 22 = .ok (.ireturn, 1) := by decide +kernel
set_option maxRecDepth 20000 in
theorem ggX6_ticks_X6_within : GoodIn wsX6_ticks wsX6_within := goodIn_r _ [6] (by decide +kernel) (by decide +kernel)
set_option maxRecDepth 20000 in
theorem gX6_ticks_X6_within : GoodIn wsX6_ticks (va_wsS RX6 49 yX6_within wsX6_within) := goodIn_app (goodIn_of _ (by decide +kernel)) ggX6_ticks_X6_within
set_option maxRecDepth 20000 in
theorem ggX6_ticks_X6_sendLetters : GoodIn wsX6_ticks wsX6_sendLetters := goodIn_r _ [10, 11, 2, 12, 13, 14, 5, 15, 16, 17, 18, 19, 20, 21, 22, 23, 24, 25, 26, 27, 28, 29, 30, 31, 32, 33, 34, 35, 36, 37, 38, 39, 40, 41, 42, 43, 44, 45, 46, 47, 48, 49, 50, 51, 52, 53, 54, 55, 56, 57, 58, 59, 60, 61, 62, 63, 64, 65, 66, 67, 184, 185, 186, 187, 188, 189, 190, 191, 192, 193, 194, 195, 196, 197, 198, 199, 200, 201, 202, 203, 204, 205, 206, 207, 208, 209, 210, 211, 212, 213, 214, 215, 216, 217, 218, 219, 220, 221, 222, 223, 224, 225, 226, 227, 228, 229, 230, 231, 232] (by decide +kernel) (by decide +kernel)
set_option maxRecDepth 20000 in
theorem gX6_ticks_X6_sendLetters : GoodIn wsX6_ticks (wsV RX6 134 RX6 yX6_sendLetters wsX6_sendLetters) := goodIn_app (goodIn_of _ (by decide +kernel)) ggX6_ticks_X6_sendLetters
set_option maxRecDepth 20000 in
theorem ggX6_ticks_X6_hearLetters : GoodIn wsX6_ticks wsX6_hearLetters := goodIn_r _ [71, 11, 12, 13, 14, 5, 15, 16, 72, 73, 74, 75, 76, 77, 78, 79, 80, 81, 82, 83, 84, 85, 86, 87, 88, 89, 90, 91, 3, 4, 6, 92, 31, 32, 33, 34, 35, 36, 184, 185, 186, 187, 188, 189, 190, 191, 192, 193, 194, 195, 196, 197, 198, 199, 200, 201, 202, 203, 204, 205, 206, 207, 208, 209, 210, 211, 223, 224, 225, 226, 227, 228, 229, 230, 231, 232] (by decide +kernel) (by decide +kernel)
set_option maxRecDepth 20000 in
theorem gX6_ticks_X6_hearLetters : GoodIn wsX6_ticks (wsV RX6 137 RX6 yX6_hearLetters wsX6_hearLetters) := goodIn_app (goodIn_of _ (by decide +kernel)) ggX6_ticks_X6_hearLetters
set_option maxRecDepth 20000 in
theorem ggX6_ticks_X6_letLettersWork : GoodIn wsX6_ticks wsX6_letLettersWork := goodIn_r _ [96, 11, 2, 12, 13, 14, 5, 15, 16, 97, 98, 99, 20, 100, 101, 102, 103, 104, 66, 67, 105, 106, 107, 108, 63, 23, 27, 22, 25, 28, 109, 110, 111, 112, 113, 114, 115, 116, 117, 118, 119, 120, 121, 122, 31, 32, 33, 34, 35, 36, 30, 123, 124, 125, 126, 64, 65, 127, 128, 129, 130, 131, 132, 133, 40, 134, 42, 43, 135, 136, 137, 138, 139, 140, 141, 142, 143, 144, 145, 146, 147, 148, 44, 45, 46, 149, 150, 151, 152, 153, 154, 155, 184, 185, 186, 187, 188, 189, 190, 191, 192, 193, 194, 195, 196, 197, 198, 199, 200, 201, 202, 203, 204, 205, 206, 207, 208, 209, 210, 211, 223, 224, 225, 226, 227, 228, 229, 230, 231, 212, 213, 214, 215, 216, 217, 218, 219, 220, 221, 222, 232] (by decide +kernel) (by decide +kernel)
set_option maxRecDepth 20000 in
theorem gX6_ticks_X6_letLettersWork : GoodIn wsX6_ticks (wsV RX6 140 RX6 yX6_letLettersWork wsX6_letLettersWork) := goodIn_app (goodIn_of _ (by decide +kernel)) ggX6_ticks_X6_letLettersWork
set_option maxRecDepth 20000 in
theorem ggX6_ticks_X6_endTick : GoodIn wsX6_ticks wsX6_endTick := goodIn_r _ [159, 11, 2, 12, 13, 14, 5, 15, 16, 160, 161, 162, 20, 163, 27, 28, 164, 165, 166, 167, 25, 66, 67, 168, 113, 114, 115, 116, 117, 118, 119, 120, 121, 122, 31, 32, 33, 34, 35, 36, 169, 170, 171, 172, 63, 173, 174, 175, 176, 23, 64, 184, 185, 186, 187, 188, 189, 190, 191, 192, 193, 194, 195, 196, 197, 198, 199, 200, 201, 202, 203, 204, 205, 206, 207, 208, 209, 210, 211, 215, 216, 217, 218, 219, 220, 221, 222, 232, 212, 213, 214] (by decide +kernel) (by decide +kernel)
set_option maxRecDepth 20000 in
theorem gX6_ticks_X6_endTick : GoodIn wsX6_ticks (wsV RX6 143 RX6 yX6_endTick wsX6_endTick) := goodIn_app (goodIn_of _ (by decide +kernel)) ggX6_ticks_X6_endTick
set_option maxRecDepth 20000 in
theorem ggX6_ticks_X6_noteAllWhole : GoodIn wsX6_ticks wsX6_noteAllWhole := goodIn_r _ [180, 181, 182, 11, 2, 12, 13, 14, 5, 15, 16, 183, 170, 171, 20, 172, 63, 173, 174, 175, 176, 23, 64, 184, 185, 186, 187, 188, 189, 190, 191, 192, 193, 194, 195, 196, 197, 198, 199, 200, 201, 202, 203, 204, 205, 206, 207, 208, 209, 210, 211, 212, 213, 214] (by decide +kernel) (by decide +kernel)
set_option maxRecDepth 20000 in
theorem gX6_ticks_X6_noteAllWhole : GoodIn wsX6_ticks (wsV RX6 146 RX6 yX6_noteAllWhole wsX6_noteAllWhole) := goodIn_app (goodIn_of _ (by decide +kernel)) ggX6_ticks_X6_noteAllWhole
theorem dX6_ticks_0 : decode cX6_ticks 0 = .ok (.iload_n 1, 1) := by decide +kernel
theorem dX6_ticks_1 : decode cX6_ticks 1 = .ok (.iconst 1, 1) := by decide +kernel
theorem dX6_ticks_2 : decode cX6_ticks 2 = .ok (.sipush 200, 3) := by decide +kernel
theorem dX6_ticks_5 : decode cX6_ticks 5 = .ok (.invokestatic 49, 3) := by decide +kernel
theorem dX6_ticks_8 : decode cX6_ticks 8 = .ok (.ifCond .eq 14, 3) := by decide +kernel
theorem dX6_ticks_11 : decode cX6_ticks 11 = .ok (.iload_n 1, 1) := by decide +kernel
theorem dX6_ticks_12 : decode cX6_ticks 12 = .ok (.ldc 133, 2) := by decide +kernel
theorem dX6_ticks_14 : decode cX6_ticks 14 = .ok (.aload_n 0, 1) := by decide +kernel
theorem dX6_ticks_15 : decode cX6_ticks 15 = .ok (.getfield 75, 3) := by decide +kernel
theorem dX6_ticks_18 : decode cX6_ticks 18 = .ok (.isub, 1) := by decide +kernel
theorem dX6_ticks_19 : decode cX6_ticks 19 = .ok (.if_icmp .le 5, 3) := by decide +kernel
theorem dX6_ticks_22 : decode cX6_ticks 22 = .ok (.iconst (-1), 1) := by decide +kernel
theorem dX6_ticks_23 : decode cX6_ticks 23 = .ok (.ireturn, 1) := by decide +kernel
theorem dX6_ticks_24 : decode cX6_ticks 24 = .ok (.iconst 0, 1) := by decide +kernel
theorem dX6_ticks_25 : decode cX6_ticks 25 = .ok (.istore_n 2, 1) := by decide +kernel
theorem dX6_ticks_26 : decode cX6_ticks 26 = .ok (.iload_n 2, 1) := by decide +kernel
theorem dX6_ticks_27 : decode cX6_ticks 27 = .ok (.iload_n 1, 1) := by decide +kernel
theorem dX6_ticks_28 : decode cX6_ticks 28 = .ok (.if_icmp .ge 39, 3) := by decide +kernel
theorem dX6_ticks_31 : decode cX6_ticks 31 = .ok (.aload_n 0, 1) := by decide +kernel
theorem dX6_ticks_32 : decode cX6_ticks 32 = .ok (.invokevirtual 134, 3) := by decide +kernel
theorem dX6_ticks_35 : decode cX6_ticks 35 = .ok (.aload_n 0, 1) := by decide +kernel
theorem dX6_ticks_36 : decode cX6_ticks 36 = .ok (.invokevirtual 137, 3) := by decide +kernel
theorem dX6_ticks_39 : decode cX6_ticks 39 = .ok (.aload_n 0, 1) := by decide +kernel
theorem dX6_ticks_40 : decode cX6_ticks 40 = .ok (.invokevirtual 140, 3) := by decide +kernel
theorem dX6_ticks_43 : decode cX6_ticks 43 = .ok (.aload_n 0, 1) := by decide +kernel
theorem dX6_ticks_44 : decode cX6_ticks 44 = .ok (.invokevirtual 143, 3) := by decide +kernel
theorem dX6_ticks_47 : decode cX6_ticks 47 = .ok (.aload_n 0, 1) := by decide +kernel
theorem dX6_ticks_48 : decode cX6_ticks 48 = .ok (.invokevirtual 146, 3) := by decide +kernel
theorem dX6_ticks_51 : decode cX6_ticks 51 = .ok (.aload_n 0, 1) := by decide +kernel
theorem dX6_ticks_52 : decode cX6_ticks 52 = .ok (.dup, 1) := by decide +kernel
theorem dX6_ticks_53 : decode cX6_ticks 53 = .ok (.getfield 75, 3) := by decide +kernel
theorem dX6_ticks_56 : decode cX6_ticks 56 = .ok (.iconst 1, 1) := by decide +kernel
theorem dX6_ticks_57 : decode cX6_ticks 57 = .ok (.iadd, 1) := by decide +kernel
theorem dX6_ticks_58 : decode cX6_ticks 58 = .ok (.putfield 75, 3) := by decide +kernel
theorem dX6_ticks_61 : decode cX6_ticks 61 = .ok (.iinc 2 1, 3) := by decide +kernel
theorem dX6_ticks_64 : decode cX6_ticks 64 = .ok (.goto (-38), 3) := by decide +kernel
theorem dX6_ticks_67 : decode cX6_ticks 67 = .ok (.aload_n 0, 1) := by decide +kernel
theorem dX6_ticks_68 : decode cX6_ticks 68 = .ok (.getfield 75, 3) := by decide +kernel
theorem dX6_ticks_71 : decode cX6_ticks 71 = .ok (.ireturn, 1) := by decide +kernel
set_option maxRecDepth 20000 in
theorem ggX6_machineOf_X6_machineAt : GoodIn wsX6_machineOf wsX6_machineAt := goodIn_r _ [5, 6, 7, 58, 59, 60, 61, 62, 63, 64, 65, 66, 67] (by decide +kernel) (by decide +kernel)
set_option maxRecDepth 20000 in
theorem gX6_machineOf_X6_machineAt : GoodIn wsX6_machineOf (wsV RX6 84 RX6 yX6_machineAt wsX6_machineAt) := goodIn_app (goodIn_of _ (by decide +kernel)) ggX6_machineOf_X6_machineAt
set_option maxRecDepth 20000 in
theorem ggX6_machineOf_X0_maskOfNth : GoodIn wsX6_machineOf wsX0_maskOfNth := goodIn_r _ [12, 13, 14, 15, 16, 11, 17, 68, 69, 70] (by decide +kernel) (by decide +kernel)
set_option maxRecDepth 20000 in
theorem gX6_machineOf_X0_maskOfNth : GoodIn wsX6_machineOf (wsV RX6 149 RX0 yX0_maskOfNth wsX0_maskOfNth) := goodIn_app (goodIn_of _ (by decide +kernel)) ggX6_machineOf_X0_maskOfNth
set_option maxRecDepth 20000 in
theorem ggX6_machineOf_X4_answer : GoodIn wsX6_machineOf wsX4_answer := goodIn_r _ [22, 23, 24, 25, 26, 27, 28, 29, 30, 31, 32, 33, 34, 35, 36, 37, 38, 21, 39, 40, 41, 42, 43, 44, 45, 46, 47, 48, 49, 50, 51, 52, 53, 54, 55, 56, 57, 68, 69, 70, 71, 72, 73, 74] (by decide +kernel) (by decide +kernel)
set_option maxRecDepth 20000 in
theorem gX6_machineOf_X4_answer : GoodIn wsX6_machineOf (wsV RX6 153 RX4 yX4_answer wsX4_answer) := goodIn_app (goodIn_of _ (by decide +kernel)) ggX6_machineOf_X4_answer
theorem dX6_machineOf_0 : decode cX6_machineOf 0 = .ok (.aload_n 0, 1) := by decide +kernel
theorem dX6_machineOf_1 : decode cX6_machineOf 1 = .ok (.iload_n 1, 1) := by decide +kernel
theorem dX6_machineOf_2 : decode cX6_machineOf 2 = .ok (.invokevirtual 84, 3) := by decide +kernel
theorem dX6_machineOf_5 : decode cX6_machineOf 5 = .ok (.astore_n 3, 1) := by decide +kernel
theorem dX6_machineOf_6 : decode cX6_machineOf 6 = .ok (.aload_n 3, 1) := by decide +kernel
theorem dX6_machineOf_7 : decode cX6_machineOf 7 = .ok (.ifnonnull 5, 3) := by decide +kernel
theorem dX6_machineOf_10 : decode cX6_machineOf 10 = .ok (.iconst (-1), 1) := by decide +kernel
theorem dX6_machineOf_11 : decode cX6_machineOf 11 = .ok (.ireturn, 1) := by decide +kernel
theorem dX6_machineOf_12 : decode cX6_machineOf 12 = .ok (.iload_n 2, 1) := by decide +kernel
theorem dX6_machineOf_13 : decode cX6_machineOf 13 = .ok (.bipush 100, 2) := by decide +kernel
theorem dX6_machineOf_15 : decode cX6_machineOf 15 = .ok (.if_icmp .lt 15, 3) := by decide +kernel
theorem dX6_machineOf_18 : decode cX6_machineOf 18 = .ok (.aload_n 3, 1) := by decide +kernel
theorem dX6_machineOf_19 : decode cX6_machineOf 19 = .ok (.getfield 109, 3) := by decide +kernel
theorem dX6_machineOf_22 : decode cX6_machineOf 22 = .ok (.iload_n 2, 1) := by decide +kernel
theorem dX6_machineOf_23 : decode cX6_machineOf 23 = .ok (.bipush 100, 2) := by decide +kernel
