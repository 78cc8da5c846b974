theorem dX0_init_0 : decode cX0_init 0 = .ok (.aload_n 0, 1) := by decide +kernel
theorem dX0_init_1 : decode cX0_init 1 = .ok (.invokespecial 3, 3) := by decide +kernel
theorem dX0_init_4 : decode cX0_init 4 = .ok (.aload_n 0, 1) := by decide +kernel
theorem dX0_init_5 : decode cX0_init 5 = .ok (.bipush 12, 2) := by decide +kernel
theorem dX0_init_7 : decode cX0_init 7 = .ok (.newarray .int, 2) := by decide +kernel
theorem dX0_init_9 : decode cX0_init 9 = .ok (.putfield 9, 3) := by decide +kernel
theorem dX0_init_12 : decode cX0_init 12 = .ok (.aload_n 0, 1) := by decide +kernel
theorem dX0_init_13 : decode cX0_init 13 = .ok (.bipush 12, 2) := by decide +kernel
theorem dX0_init_15 : decode cX0_init 15 = .ok (.newarray .int, 2) := by decide +kernel
theorem dX0_init_17 : decode cX0_init 17 = .ok (.putfield 15, 3) := by decide +kernel
theorem dX0_init_20 : decode cX0_init 20 = .ok (.return_, 1) := by decide +kernel
set_option maxRecDepth 20000 in
theorem ggX0_empty_J7_fill_53178 : GoodIn wsX0_empty wsJ7_fill_53178 := goodIn_r _ [7] (by decide +kernel) (by decide +kernel)
set_option maxRecDepth 20000 in
theorem gX0_empty_J7_fill_53178 : GoodIn wsX0_empty (va_wsS RX0 18 yJ7_fill_53178 wsJ7_fill_53178) := goodIn_app (goodIn_of _ (by decide +kernel)) ggX0_empty_J7_fill_53178
theorem dX0_empty_0 : decode cX0_empty 0 = .ok (.aload_n 0, 1) := by decide +kernel
theorem dX0_empty_1 : decode cX0_empty 1 = .ok (.getfield 9, 3) := by decide +kernel
theorem dX0_empty_4 : decode cX0_empty 4 = .ok (.iconst 0, 1) := by decide +kernel
theorem dX0_empty_5 : decode cX0_empty 5 = .ok (.invokestatic 18, 3) := by decide +kernel
theorem dX0_empty_8 : decode cX0_empty 8 = .ok (.aload_n 0, 1) := by decide +kernel
theorem dX0_empty_9 : decode cX0_empty 9 = .ok (.getfield 15, 3) := by decide +kernel
theorem dX0_empty_12 : decode cX0_empty 12 = .ok (.iconst 0, 1) := by decide +kernel
theorem dX0_empty_13 : decode cX0_empty 13 = .ok (.invokestatic 18, 3) := by decide +kernel
theorem dX0_empty_16 : decode cX0_empty 16 = .ok (.aload_n 0, 1) := by decide +kernel
theorem dX0_empty_17 : decode cX0_empty 17 = .ok (.iconst 0, 1) := by decide +kernel
theorem dX0_empty_18 : decode cX0_empty 18 = .ok (.putfield 24, 3) := by decide +kernel
theorem dX0_empty_21 : decode cX0_empty 21 = .ok (.return_, 1) := by decide +kernel
set_option maxRecDepth 20000 in
theorem ggX0_takeIn_X0_has : GoodIn wsX0_takeIn wsX0_has := goodIn_r _ [7] (by decide +kernel) (by decide +kernel)
set_option maxRecDepth 20000 in
theorem gX0_takeIn_X0_has : GoodIn wsX0_takeIn (va_wsS RX0 28 yX0_has wsX0_has) := goodIn_app (goodIn_of _ (by decide +kernel)) ggX0_takeIn_X0_has
set_option maxRecDepth 20000 in
theorem ggX0_takeIn_X0_headOf : GoodIn wsX0_takeIn wsX0_headOf := goodIn_r _ [10, 4, 5, 6, 7] (by decide +kernel) (by decide +kernel)
set_option maxRecDepth 20000 in
theorem gX0_takeIn_X0_headOf : GoodIn wsX0_takeIn (va_wsS RX0 32 yX0_headOf wsX0_headOf) := goodIn_app (goodIn_of _ (by decide +kernel)) ggX0_takeIn_X0_headOf
theorem dX0_takeIn_0 : decode cX0_takeIn 0 = .ok (.iload_n 1, 1) := by decide +kernel
theorem dX0_takeIn_1 : decode cX0_takeIn 1 = .ok (.istore_n 3, 1) := by decide +kernel
theorem dX0_takeIn_2 : decode cX0_takeIn 2 = .ok (.iload_n 2, 1) := by decide +kernel
theorem dX0_takeIn_3 : decode cX0_takeIn 3 = .ok (.istore 4, 2) := by decide +kernel
theorem dX0_takeIn_5 : decode cX0_takeIn 5 = .ok (.iconst 0, 1) := by decide +kernel
theorem dX0_takeIn_6 : decode cX0_takeIn 6 = .ok (.istore 5, 2) := by decide +kernel
theorem dX0_takeIn_8 : decode cX0_takeIn 8 = .ok (.iload 5, 2) := by decide +kernel
theorem dX0_takeIn_10 : decode cX0_takeIn 10 = .ok (.bipush 12, 2) := by decide +kernel
theorem dX0_takeIn_12 : decode cX0_takeIn 12 = .ok (.if_icmp .ge 50, 3) := by decide +kernel
theorem dX0_takeIn_15 : decode cX0_takeIn 15 = .ok (.aload_n 0, 1) := by decide +kernel
theorem dX0_takeIn_16 : decode cX0_takeIn 16 = .ok (.getfield 9, 3) := by decide +kernel
theorem dX0_takeIn_19 : decode cX0_takeIn 19 = .ok (.iload 5, 2) := by decide +kernel
theorem dX0_takeIn_21 : decode cX0_takeIn 21 = .ok (.iaload, 1) := by decide +kernel
theorem dX0_takeIn_22 : decode cX0_takeIn 22 = .ok (.ifCond .eq 34, 3) := by decide +kernel
theorem dX0_takeIn_25 : decode cX0_takeIn 25 = .ok (.iload_n 3, 1) := by decide +kernel
theorem dX0_takeIn_26 : decode cX0_takeIn 26 = .ok (.iload 5, 2) := by decide +kernel
theorem dX0_takeIn_28 : decode cX0_takeIn 28 = .ok (.invokestatic 28, 3) := by decide +kernel
theorem dX0_takeIn_31 : decode cX0_takeIn 31 = .ok (.ifCond .eq 25, 3) := by decide +kernel
theorem dX0_takeIn_34 : decode cX0_takeIn 34 = .ok (.iload_n 3, 1) := by decide +kernel
theorem dX0_takeIn_35 : decode cX0_takeIn 35 = .ok (.aload_n 0, 1) := by decide +kernel
theorem dX0_takeIn_36 : decode cX0_takeIn 36 = .ok (.getfield 9, 3) := by decide +kernel
theorem dX0_takeIn_39 : decode cX0_takeIn 39 = .ok (.iload 5, 2) := by decide +kernel
theorem dX0_takeIn_41 : decode cX0_takeIn 41 = .ok (.iaload, 1) := by decide +kernel
theorem dX0_takeIn_42 : decode cX0_takeIn 42 = .ok (.ixor, 1) := by decide +kernel
theorem dX0_takeIn_43 : decode cX0_takeIn 43 = .ok (.istore_n 3, 1) := by decide +kernel
theorem dX0_takeIn_44 : decode cX0_takeIn 44 = .ok (.iload 4, 2) := by decide +kernel
theorem dX0_takeIn_46 : decode cX0_takeIn 46 = .ok (.aload_n 0, 1) := by decide +kernel
theorem dX0_takeIn_47 : decode cX0_takeIn 47 = .ok (.getfield 15, 3) := by decide +kernel
theorem dX0_takeIn_50 : decode cX0_takeIn 50 = .ok (.iload 5, 2) := by decide +kernel
theorem dX0_takeIn_52 : decode cX0_takeIn 52 = .ok (.iaload, 1) := by decide +kernel
theorem dX0_takeIn_53 : decode cX0_takeIn 53 = .ok (.ixor, 1) := by decide +kernel
theorem dX0_takeIn_54 : decode cX0_takeIn 54 = .ok (.istore 4, 2) := by decide +kernel
theorem dX0_takeIn_56 : decode cX0_takeIn 56 = .ok (.iinc 5 1, 3) := by decide +kernel
theorem dX0_takeIn_59 : decode cX0_takeIn 59 = .ok (.goto (-51), 3) := by decide +kernel
theorem dX0_takeIn_62 : decode cX0_takeIn 62 = .ok (.iload_n 3, 1) := by decide +kernel
theorem dX0_takeIn_63 : decode cX0_takeIn 63 = .ok (.invokestatic 32, 3) := by decide +kernel
theorem dX0_takeIn_66 : decode cX0_takeIn 66 = .ok (.istore 5, 2) := by decide +kernel
theorem dX0_takeIn_68 : decode cX0_takeIn 68 = .ok (.iload 5, 2) := by decide +kernel
theorem dX0_takeIn_70 : decode cX0_takeIn 70 = .ok (.iconst (-1), 1) := by decide +kernel
theorem dX0_takeIn_71 : decode cX0_takeIn 71 = .ok (.if_icmp .ne 5, 3) := by decide +kernel
theorem dX0_takeIn_74 : decode cX0_takeIn 74 = .ok (.iconst 0, 1) := by decide +kernel
theorem dX0_takeIn_75 : decode cX0_takeIn 75 = .ok (.ireturn, 1) := by decide +kernel
theorem dX0_takeIn_76 : decode cX0_takeIn 76 = .ok (.iconst 0, 1) := by decide +kernel
theorem dX0_takeIn_77 : decode cX0_takeIn 77 = .ok (.istore 6, 2) := by decide +kernel
theorem dX0_takeIn_79 : decode cX0_takeIn 79 = .ok (.iload 6, 2) := by decide +kernel
theorem dX0_takeIn_81 : decode cX0_takeIn 81 = .ok (.bipush 12, 2) := by decide +kernel
theorem dX0_takeIn_83 : decode cX0_takeIn 83 = .ok (.if_icmp .ge 47, 3) := by decide +kernel
theorem dX0_takeIn_86 : decode cX0_takeIn 86 = .ok (.aload_n 0, 1) := by decide +kernel
theorem dX0_takeIn_87 : decode cX0_takeIn 87 = .ok (.getfield 9, 3) := by decide +kernel
theorem dX0_takeIn_90 : decode cX0_takeIn 90 = .ok (.iload 6, 2) := by decide +kernel
theorem dX0_takeIn_92 : decode cX0_takeIn 92 = .ok (.iaload, 1) := by decide +kernel
theorem dX0_takeIn_93 : decode cX0_takeIn 93 = .ok (.iload 5, 2) := by decide +kernel
theorem dX0_takeIn_95 : decode cX0_takeIn 95 = .ok (.invokestatic 28, 3) := by decide +kernel
theorem dX0_takeIn_98 : decode cX0_takeIn 98 = .ok (.ifCond .eq 26, 3) := by decide +kernel
theorem dX0_takeIn_101 : decode cX0_takeIn 101 = .ok (.aload_n 0, 1) := by decide +kernel
theorem dX0_takeIn_102 : decode cX0_takeIn 102 = .ok (.getfield 9, 3) := by decide +kernel
theorem dX0_takeIn_105 : decode cX0_takeIn 105 = .ok (.iload 6, 2) := by decide +kernel
theorem dX0_takeIn_107 : decode cX0_takeIn 107 = .ok (.dup2, 1) := by decide +kernel
theorem dX0_takeIn_108 : decode cX0_takeIn 108 = .ok (.iaload, 1) := by decide +kernel
theorem dX0_takeIn_109 : decode cX0_takeIn 109 = .ok (.iload_n 3, 1) := by decide +kernel
theorem dX0_takeIn_110 : decode cX0_takeIn 110 = .ok (.ixor, 1) := by decide +kernel
theorem dX0_takeIn_111 : decode cX0_takeIn 111 = .ok (.iastore, 1) := by decide +kernel
theorem dX0_takeIn_112 : decode cX0_takeIn 112 = .ok (.aload_n 0, 1) := by decide +kernel
theorem dX0_takeIn_113 : decode cX0_takeIn 113 = .ok (.getfield 15, 3) := by decide +kernel
theorem dX0_takeIn_116 : decode cX0_takeIn 116 = .ok (.iload 6, 2) := by decide +kernel
theorem dX0_takeIn_118 : decode cX0_takeIn 118 = .ok (.dup2, 1) := by decide +kernel
theorem dX0_takeIn_119 : decode cX0_takeIn 119 = .ok (.iaload, 1) := by decide +kernel
theorem dX0_takeIn_120 : decode cX0_takeIn 120 = .ok (.iload 4, 2) := by decide +kernel
theorem dX0_takeIn_122 : decode cX0_takeIn 122 = .ok (.ixor, 1) := by decide +kernel
theorem dX0_takeIn_123 : decode cX0_takeIn 123 = .ok (.iastore, 1) := by decide +kernel
theorem dX0_takeIn_124 : decode cX0_takeIn 124 = .ok (.iinc 6 1, 3) := by decide +kernel
theorem dX0_takeIn_127 : decode cX0_takeIn 127 = .ok (.goto (-48), 3) := by decide +kernel
theorem dX0_takeIn_130 : decode cX0_takeIn 130 = .ok (.aload_n 0, 1) := by decide +kernel
theorem dX0_takeIn_131 : decode cX0_takeIn 131 = .ok (.getfield 9, 3) := by decide +kernel
theorem dX0_takeIn_134 : decode cX0_takeIn 134 = .ok (.iload 5, 2) := by decide +kernel
theorem dX0_takeIn_136 : decode cX0_takeIn 136 = .ok (.iload_n 3, 1) := by decide +kernel
theorem dX0_takeIn_137 : decode cX0_takeIn 137 = .ok (.iastore, 1) := by decide +kernel
theorem dX0_takeIn_138 : decode cX0_takeIn 138 = .ok (.aload_n 0, 1) := by decide +kernel
theorem dX0_takeIn_139 : decode cX0_takeIn 139 = .ok (.getfield 15, 3) := by decide +kernel
theorem dX0_takeIn_142 : decode cX0_takeIn 142 = .ok (.iload 5, 2) := by decide +kernel
theorem dX0_takeIn_144 : decode cX0_takeIn 144 = .ok (.iload 4, 2) := by decide +kernel
theorem dX0_takeIn_146 : decode cX0_takeIn 146 = .ok (.iastore, 1) := by decide +kernel
theorem dX0_takeIn_147 : decode cX0_takeIn 147 = .ok (.aload_n 0, 1) := by decide +kernel
theorem dX0_takeIn_148 : decode cX0_takeIn 148 = .ok (.dup, 1) := by decide +kernel
theorem dX0_takeIn_149 : decode cX0_takeIn 149 = .ok (.getfield 24, 3) := by decide +kernel
theorem dX0_takeIn_152 : decode cX0_takeIn 152 = .ok (.iconst 1, 1) := by decide +kernel
theorem dX0_takeIn_153 : decode cX0_takeIn 153 = .ok (.iadd, 1) := by decide +kernel
theorem dX0_takeIn_154 : decode cX0_takeIn 154 = .ok (.putfield 24, 3) := by decide +kernel
theorem dX0_takeIn_157 : decode cX0_takeIn 157 = .ok (.iconst 1, 1) := by decide +kernel
theorem dX0_takeIn_158 : decode cX0_takeIn 158 = .ok (.ireturn, 1) := by decide +kernel
theorem dX0_tearLeast_0 : decode cX0_tearLeast 0 = .ok (.iconst 0, 1) := by decide +kernel
theorem dX0_tearLeast_1 : decode cX0_tearLeast 1 = .ok (.istore_n 1, 1) := by decide +kernel
theorem dX0_tearLeast_2 : decode cX0_tearLeast 2 = .ok (.iload_n 1, 1) := by decide +kernel
theorem dX0_tearLeast_3 : decode cX0_tearLeast 3 = .ok (.bipush 12, 2) := by decide +kernel
theorem dX0_tearLeast_5 : decode cX0_tearLeast 5 = .ok (.if_icmp .ge 43, 3) := by decide +kernel
theorem dX0_tearLeast_8 : decode cX0_tearLeast 8 = .ok (.aload_n 0, 1) := by decide +kernel
theorem dX0_tearLeast_9 : decode cX0_tearLeast 9 = .ok (.getfield 9, 3) := by decide +kernel
theorem dX0_tearLeast_12 : decode cX0_tearLeast 12 = .ok (.iload_n 1, 1) := by decide +kernel
theorem dX0_tearLeast_13 : decode cX0_tearLeast 13 = .ok (.iaload, 1) := by decide +kernel
theorem dX0_tearLeast_14 : decode cX0_tearLeast 14 = .ok (.ifCond .eq 28, 3) := by decide +kernel
theorem dX0_tearLeast_17 : decode cX0_tearLeast 17 = .ok (.aload_n 0, 1) := by decide +kernel
theorem dX0_tearLeast_18 : decode cX0_tearLeast 18 = .ok (.getfield 9, 3) := by decide +kernel
theorem dX0_tearLeast_21 : decode cX0_tearLeast 21 = .ok (.iload_n 1, 1) := by decide +kernel
theorem dX0_tearLeast_22 : decode cX0_tearLeast 22 = .ok (.iconst 0, 1) := by decide +kernel
theorem dX0_tearLeast_23 : decode cX0_tearLeast 23 = .ok (.iastore, 1) := by decide +kernel
theorem dX0_tearLeast_24 : decode cX0_tearLeast 24 = .ok (.aload_n 0, 1) := by decide +kernel
theorem dX0_tearLeast_25 : decode cX0_tearLeast 25 = .ok (.getfield 15, 3) := by decide +kernel
theorem dX0_tearLeast_28 : decode cX0_tearLeast 28 = .ok (.iload_n 1, 1) := by decide +kernel
theorem dX0_tearLeast_29 : decode cX0_tearLeast 29 = .ok (.iconst 0, 1) := by decide +kernel
theorem dX0_tearLeast_30 : decode cX0_tearLeast 30 = .ok (.iastore, 1) := by decide +kernel
theorem dX0_tearLeast_31 : decode cX0_tearLeast 31 = .ok (.aload_n 0, 1) := by decide +kernel
theorem dX0_tearLeast_32 : decode cX0_tearLeast 32 = .ok (.dup, 1) := by decide +kernel
theorem dX0_tearLeast_33 : decode cX0_tearLeast 33 = .ok (.getfield 24, 3) := by decide +kernel
theorem dX0_tearLeast_36 : decode cX0_tearLeast 36 = .ok (.iconst 1, 1) := by decide +kernel
theorem dX0_tearLeast_37 : decode cX0_tearLeast 37 = .ok (.isub, 1) := by decide +kernel
theorem dX0_tearLeast_38 : decode cX0_tearLeast 38 = .ok (.putfield 24, 3) := by decide +kernel
theorem dX0_tearLeast_41 : decode cX0_tearLeast 41 = .ok (.return_, 1) := by decide +kernel
theorem dX0_tearLeast_42 : decode cX0_tearLeast 42 = .ok (.iinc 1 1, 3) := by decide +kernel
theorem dX0_tearLeast_45 : decode cX0_tearLeast 45 = .ok (.goto (-43), 3) := by decide +kernel
theorem dX0_tearLeast_48 : decode cX0_tearLeast 48 = .ok (.return_, 1) := by decide +kernel
set_option maxRecDepth 20000 in
theorem ggX0_mixInto_X0_has : GoodIn wsX0_mixInto wsX0_has := goodIn_r _ [6] (by decide +kernel) (by decide +kernel)
set_option maxRecDepth 20000 in
theorem gX0_mixInto_X0_has : GoodIn wsX0_mixInto (va_wsS RX0 28 yX0_has wsX0_has) := goodIn_app (goodIn_of _ (by decide +kernel)) ggX0_mixInto_X0_has
set_option maxRecDepth 20000 in
theorem ggX0_mixInto_X0_maskOfNth : GoodIn wsX0_mixInto wsX0_maskOfNth := goodIn_r _ [10, 1, 11, 12, 13, 5, 14, 28, 29, 30] (by decide +kernel) (by decide +kernel)
set_option maxRecDepth 20000 in
theorem gX0_mixInto_X0_maskOfNth : GoodIn wsX0_mixInto (wsV RX0 43 RX0 yX0_maskOfNth wsX0_maskOfNth) := goodIn_app (goodIn_of _ (by decide +kernel)) ggX0_mixInto_X0_maskOfNth
set_option maxRecDepth 20000 in
theorem ggX0_mixInto_X0_dataOfNth : GoodIn wsX0_mixInto wsX0_dataOfNth := goodIn_r _ [18, 2, 11, 12, 13, 5, 14, 1, 28, 29, 30] (by decide +kernel) (by decide +kernel)
set_option maxRecDepth 20000 in
theorem gX0_mixInto_X0_dataOfNth : GoodIn wsX0_mixInto (wsV RX0 46 RX0 yX0_dataOfNth wsX0_dataOfNth) := goodIn_app (goodIn_of _ (by decide +kernel)) ggX0_mixInto_X0_dataOfNth
theorem dX0_mixInto_0 : decode cX0_mixInto 0 = .ok (.aload_n 1, 1) := by decide +kernel
theorem dX0_mixInto_1 : decode cX0_mixInto 1 = .ok (.iconst 0, 1) := by decide +kernel
theorem dX0_mixInto_2 : decode cX0_mixInto 2 = .ok (.putfield 36, 3) := by decide +kernel
theorem dX0_mixInto_5 : decode cX0_mixInto 5 = .ok (.aload_n 1, 1) := by decide +kernel
theorem dX0_mixInto_6 : decode cX0_mixInto 6 = .ok (.iconst 0, 1) := by decide +kernel
theorem dX0_mixInto_7 : decode cX0_mixInto 7 = .ok (.putfield 41, 3) := by decide +kernel
theorem dX0_mixInto_10 : decode cX0_mixInto 10 = .ok (.iconst 0, 1) := by decide +kernel
theorem dX0_mixInto_11 : decode cX0_mixInto 11 = .ok (.istore_n 3, 1) := by decide +kernel
theorem dX0_mixInto_12 : decode cX0_mixInto 12 = .ok (.bipush 11, 2) := by decide +kernel
theorem dX0_mixInto_14 : decode cX0_mixInto 14 = .ok (.istore 4, 2) := by decide +kernel
theorem dX0_mixInto_16 : decode cX0_mixInto 16 = .ok (.iload 4, 2) := by decide +kernel
theorem dX0_mixInto_18 : decode cX0_mixInto 18 = .ok (.ifCond .lt 62, 3) := by decide +kernel
theorem dX0_mixInto_21 : decode cX0_mixInto 21 = .ok (.aload_n 0, 1) := by decide +kernel
theorem dX0_mixInto_22 : decode cX0_mixInto 22 = .ok (.getfield 9, 3) := by decide +kernel
theorem dX0_mixInto_25 : decode cX0_mixInto 25 = .ok (.iload 4, 2) := by decide +kernel
theorem dX0_mixInto_27 : decode cX0_mixInto 27 = .ok (.iaload, 1) := by decide +kernel
theorem dX0_mixInto_28 : decode cX0_mixInto 28 = .ok (.ifCond .eq 46, 3) := by decide +kernel
theorem dX0_mixInto_31 : decode cX0_mixInto 31 = .ok (.iload_n 2, 1) := by decide +kernel
theorem dX0_mixInto_32 : decode cX0_mixInto 32 = .ok (.iload_n 3, 1) := by decide +kernel
theorem dX0_mixInto_33 : decode cX0_mixInto 33 = .ok (.invokestatic 28, 3) := by decide +kernel
theorem dX0_mixInto_36 : decode cX0_mixInto 36 = .ok (.ifCond .eq 35, 3) := by decide +kernel
theorem dX0_mixInto_39 : decode cX0_mixInto 39 = .ok (.aload_n 1, 1) := by decide +kernel
theorem dX0_mixInto_40 : decode cX0_mixInto 40 = .ok (.dup, 1) := by decide +kernel
theorem dX0_mixInto_41 : decode cX0_mixInto 41 = .ok (.getfield 36, 3) := by decide +kernel
theorem dX0_mixInto_44 : decode cX0_mixInto 44 = .ok (.aload_n 0, 1) := by decide +kernel
theorem dX0_mixInto_45 : decode cX0_mixInto 45 = .ok (.getfield 9, 3) := by decide +kernel
theorem dX0_mixInto_48 : decode cX0_mixInto 48 = .ok (.iload 4, 2) := by decide +kernel
theorem dX0_mixInto_50 : decode cX0_mixInto 50 = .ok (.iaload, 1) := by decide +kernel
theorem dX0_mixInto_51 : decode cX0_mixInto 51 = .ok (.ixor, 1) := by decide +kernel
theorem dX0_mixInto_52 : decode cX0_mixInto 52 = .ok (.putfield 36, 3) := by decide +kernel
theorem dX0_mixInto_55 : decode cX0_mixInto 55 = .ok (.aload_n 1, 1) := by decide +kernel
theorem dX0_mixInto_56 : decode cX0_mixInto 56 = .ok (.dup, 1) := by decide +kernel
theorem dX0_mixInto_57 : decode cX0_mixInto 57 = .ok (.getfield 41, 3) := by decide +kernel
theorem dX0_mixInto_60 : decode cX0_mixInto 60 = .ok (.aload_n 0, 1) := by decide +kernel
theorem dX0_mixInto_61 : decode cX0_mixInto 61 = .ok (.getfield 15, 3) := by decide +kernel
theorem dX0_mixInto_64 : decode cX0_mixInto 64 = .ok (.iload 4, 2) := by decide +kernel
theorem dX0_mixInto_66 : decode cX0_mixInto 66 = .ok (.iaload, 1) := by decide +kernel
theorem dX0_mixInto_67 : decode cX0_mixInto 67 = .ok (.ixor, 1) := by decide +kernel
theorem dX0_mixInto_68 : decode cX0_mixInto 68 = .ok (.putfield 41, 3) := by decide +kernel
theorem dX0_mixInto_71 : decode cX0_mixInto 71 = .ok (.iinc 3 1, 3) := by decide +kernel
theorem dX0_mixInto_74 : decode cX0_mixInto 74 = .ok (.iinc 4 (-1), 3) := by decide +kernel
theorem dX0_mixInto_77 : decode cX0_mixInto 77 = .ok (.goto (-61), 3) := by decide +kernel
theorem dX0_mixInto_80 : decode cX0_mixInto 80 = .ok (.aload_n 1, 1) := by decide +kernel
theorem dX0_mixInto_81 : decode cX0_mixInto 81 = .ok (.getfield 36, 3) := by decide +kernel
theorem dX0_mixInto_84 : decode cX0_mixInto 84 = .ok (.ifCond .ne 21, 3) := by decide +kernel
theorem dX0_mixInto_87 : decode cX0_mixInto 87 = .ok (.aload_n 1, 1) := by decide +kernel
theorem dX0_mixInto_88 : decode cX0_mixInto 88 = .ok (.aload_n 0, 1) := by decide +kernel
theorem dX0_mixInto_89 : decode cX0_mixInto 89 = .ok (.iconst 0, 1) := by decide +kernel
theorem dX0_mixInto_90 : decode cX0_mixInto 90 = .ok (.invokevirtual 43, 3) := by decide +kernel
theorem dX0_mixInto_93 : decode cX0_mixInto 93 = .ok (.putfield 36, 3) := by decide +kernel
theorem dX0_mixInto_96 : decode cX0_mixInto 96 = .ok (.aload_n 1, 1) := by decide +kernel
theorem dX0_mixInto_97 : decode cX0_mixInto 97 = .ok (.aload_n 0, 1) := by decide +kernel
theorem dX0_mixInto_98 : decode cX0_mixInto 98 = .ok (.iconst 0, 1) := by decide +kernel
theorem dX0_mixInto_99 : decode cX0_mixInto 99 = .ok (.invokevirtual 46, 3) := by decide +kernel
theorem dX0_mixInto_102 : decode cX0_mixInto 102 = .ok (.putfield 41, 3) := by decide +kernel
theorem dX0_mixInto_105 : decode cX0_mixInto 105 = .ok (.return_, 1) := by decide +kernel
theorem dX0_sumOfPieces_0 : decode cX0_sumOfPieces 0 = .ok (.iconst 0, 1) := by decide +kernel
theorem dX0_sumOfPieces_1 : decode cX0_sumOfPieces 1 = .ok (.istore_n 1, 1) := by decide +kernel
theorem dX0_sumOfPieces_2 : decode cX0_sumOfPieces 2 = .ok (.iconst 0, 1) := by decide +kernel
theorem dX0_sumOfPieces_3 : decode cX0_sumOfPieces 3 = .ok (.istore_n 2, 1) := by decide +kernel
theorem dX0_sumOfPieces_4 : decode cX0_sumOfPieces 4 = .ok (.iload_n 2, 1) := by decide +kernel
theorem dX0_sumOfPieces_5 : decode cX0_sumOfPieces 5 = .ok (.bipush 12, 2) := by decide +kernel
theorem dX0_sumOfPieces_7 : decode cX0_sumOfPieces 7 = .ok (.if_icmp .ge 22, 3) := by decide +kernel
theorem dX0_sumOfPieces_10 : decode cX0_sumOfPieces 10 = .ok (.iload_n 1, 1) := by decide +kernel
theorem dX0_sumOfPieces_11 : decode cX0_sumOfPieces 11 = .ok (.aload_n 0, 1) := by decide +kernel
theorem dX0_sumOfPieces_12 : decode cX0_sumOfPieces 12 = .ok (.getfield 15, 3) := by decide +kernel
theorem dX0_sumOfPieces_15 : decode cX0_sumOfPieces 15 = .ok (.iload_n 2, 1) := by decide +kernel
theorem dX0_sumOfPieces_16 : decode cX0_sumOfPieces 16 = .ok (.iaload, 1) := by decide +kernel
theorem dX0_sumOfPieces_17 : decode cX0_sumOfPieces 17 = .ok (.iload_n 2, 1) := by decide +kernel
theorem dX0_sumOfPieces_18 : decode cX0_sumOfPieces 18 = .ok (.iconst 1, 1) := by decide +kernel
theorem dX0_sumOfPieces_19 : decode cX0_sumOfPieces 19 = .ok (.iadd, 1) := by decide +kernel
theorem dX0_sumOfPieces_20 : decode cX0_sumOfPieces 20 = .ok (.imul, 1) := by decide +kernel
theorem dX0_sumOfPieces_21 : decode cX0_sumOfPieces 21 = .ok (.iadd, 1) := by decide +kernel
theorem dX0_sumOfPieces_22 : decode cX0_sumOfPieces 22 = .ok (.istore_n 1, 1) := by decide +kernel
theorem dX0_sumOfPieces_23 : decode cX0_sumOfPieces 23 = .ok (.iinc 2 1, 3) := by decide +kernel
theorem dX0_sumOfPieces_26 : decode cX0_sumOfPieces 26 = .ok (.goto (-22), 3) := by decide +kernel
theorem dX0_sumOfPieces_29 : decode cX0_sumOfPieces 29 = .ok (.iload_n 1, 1) := by decide +kernel
theorem dX0_sumOfPieces_30 : decode cX0_sumOfPieces 30 = .ok (.ireturn, 1) := by decide +kernel
set_option maxRecDepth 20000 in
theorem ggX0_maskOfNth_X0_headOfNth : GoodIn wsX0_maskOfNth wsX0_headOfNth := goodIn_r _ [6, 1, 7, 8, 9] (by decide +kernel) (by decide +kernel)
set_option maxRecDepth 20000 in
theorem gX0_maskOfNth_X0_headOfNth : GoodIn wsX0_maskOfNth (wsV RX0 49 RX0 yX0_headOfNth wsX0_headOfNth) := goodIn_app (goodIn_of _ (by decide +kernel)) ggX0_maskOfNth_X0_headOfNth
theorem dX0_maskOfNth_0 : decode cX0_maskOfNth 0 = .ok (.aload_n 0, 1) := by decide +kernel
theorem dX0_maskOfNth_1 : decode cX0_maskOfNth 1 = .ok (.iload_n 1, 1) := by decide +kernel
theorem dX0_maskOfNth_2 : decode cX0_maskOfNth 2 = .ok (.invokevirtual 49, 3) := by decide +kernel
theorem dX0_maskOfNth_5 : decode cX0_maskOfNth 5 = .ok (.istore_n 2, 1) := by decide +kernel
theorem dX0_maskOfNth_6 : decode cX0_maskOfNth 6 = .ok (.iload_n 2, 1) := by decide +kernel
theorem dX0_maskOfNth_7 : decode cX0_maskOfNth 7 = .ok (.iconst (-1), 1) := by decide +kernel
theorem dX0_maskOfNth_8 : decode cX0_maskOfNth 8 = .ok (.if_icmp .ne 7, 3) := by decide +kernel
theorem dX0_maskOfNth_11 : decode cX0_maskOfNth 11 = .ok (.iconst (-1), 1) := by decide +kernel
theorem dX0_maskOfNth_12 : decode cX0_maskOfNth 12 = .ok (.goto 9, 3) := by decide +kernel
theorem dX0_maskOfNth_15 : decode cX0_maskOfNth 15 = .ok (.aload_n 0, 1) := by decide +kernel
theorem dX0_maskOfNth_16 : decode cX0_maskOfNth 16 = .ok (.getfield 9, 3) := by decide +kernel
theorem dX0_maskOfNth_19 : decode cX0_maskOfNth 19 = .ok (.iload_n 2, 1) := by decide +kernel
theorem dX0_maskOfNth_20 : decode cX0_maskOfNth 20 = .ok (.iaload, 1) := by decide +kernel
theorem dX0_maskOfNth_21 : decode cX0_maskOfNth 21 = .ok (.ireturn, 1) := by decide +kernel
set_option maxRecDepth 20000 in
theorem ggX0_dataOfNth_X0_headOfNth : GoodIn wsX0_dataOfNth wsX0_headOfNth := goodIn_r _ [6, 7, 8, 9, 10] (by decide +kernel) (by decide +kernel)
set_option maxRecDepth 20000 in
theorem gX0_dataOfNth_X0_headOfNth : GoodIn wsX0_dataOfNth (wsV RX0 49 RX0 yX0_headOfNth wsX0_headOfNth) := goodIn_app (goodIn_of _ (by decide +kernel)) ggX0_dataOfNth_X0_headOfNth
theorem dX0_dataOfNth_0 : decode cX0_dataOfNth 0 = .ok (.aload_n 0, 1) := by decide +kernel
theorem dX0_dataOfNth_1 : decode cX0_dataOfNth 1 = .ok (.iload_n 1, 1) := by decide +kernel
theorem dX0_dataOfNth_2 : decode cX0_dataOfNth 2 = .ok (.invokevirtual 49, 3) := by decide +kernel
theorem dX0_dataOfNth_5 : decode cX0_dataOfNth 5 = .ok (.istore_n 2, 1) := by decide +kernel
theorem dX0_dataOfNth_6 : decode cX0_dataOfNth 6 = .ok (.iload_n 2, 1) := by decide +kernel
theorem dX0_dataOfNth_7 : decode cX0_dataOfNth 7 = .ok (.iconst (-1), 1) := by decide +kernel
theorem dX0_dataOfNth_8 : decode cX0_dataOfNth 8 = .ok (.if_icmp .ne 7, 3) := by decide +kernel
theorem dX0_dataOfNth_11 : decode cX0_dataOfNth 11 = .ok (.iconst 0, 1) := by decide +kernel
theorem dX0_dataOfNth_12 : decode cX0_dataOfNth 12 = .ok (.goto 9, 3) := by decide +kernel
theorem dX0_dataOfNth_15 : decode cX0_dataOfNth 15 = .ok (.aload_n 0, 1) := by decide +kernel
theorem dX0_dataOfNth_16 : decode cX0_dataOfNth 16 = .ok (.getfield 15, 3) := by decide +kernel
theorem dX0_dataOfNth_19 : decode cX0_dataOfNth 19 = .ok (.iload_n 2, 1) := by decide +kernel
theorem dX0_dataOfNth_20 : decode cX0_dataOfNth 20 = .ok (.iaload, 1) := by decide +kernel
theorem dX0_dataOfNth_21 : decode cX0_dataOfNth 21 = .ok (.ireturn, 1) := by decide +kernel
theorem dX0_headOfNth_0 : decode cX0_headOfNth 0 = .ok (.iconst 0, 1) := by decide +kernel
theorem dX0_headOfNth_1 : decode cX0_headOfNth 1 = .ok (.istore_n 2, 1) := by decide +kernel
theorem dX0_headOfNth_2 : decode cX0_headOfNth 2 = .ok (.bipush 11, 2) := by decide +kernel
theorem dX0_headOfNth_4 : decode cX0_headOfNth 4 = .ok (.istore_n 3, 1) := by decide +kernel
theorem dX0_headOfNth_5 : decode cX0_headOfNth 5 = .ok (.iload_n 3, 1) := by decide +kernel
theorem dX0_headOfNth_6 : decode cX0_headOfNth 6 = .ok (.ifCond .lt 28, 3) := by decide +kernel
theorem dX0_headOfNth_9 : decode cX0_headOfNth 9 = .ok (.aload_n 0, 1) := by decide +kernel
theorem dX0_headOfNth_10 : decode cX0_headOfNth 10 = .ok (.getfield 9, 3) := by decide +kernel
theorem dX0_headOfNth_13 : decode cX0_headOfNth 13 = .ok (.iload_n 3, 1) := by decide +kernel
theorem dX0_headOfNth_14 : decode cX0_headOfNth 14 = .ok (.iaload, 1) := by decide +kernel
theorem dX0_headOfNth_15 : decode cX0_headOfNth 15 = .ok (.ifCond .eq 13, 3) := by decide +kernel
theorem dX0_headOfNth_18 : decode cX0_headOfNth 18 = .ok (.iload_n 2, 1) := by decide +kernel
theorem dX0_headOfNth_19 : decode cX0_headOfNth 19 = .ok (.iload_n 1, 1) := by decide +kernel
theorem dX0_headOfNth_20 : decode cX0_headOfNth 20 = .ok (.if_icmp .ne 5, 3) := by decide +kernel
theorem dX0_headOfNth_23 : decode cX0_headOfNth 23 = .ok (.iload_n 3, 1) := by decide +kernel
theorem dX0_headOfNth_24 : decode cX0_headOfNth 24 = .ok (.ireturn, 1) := by decide +kernel
theorem dX0_headOfNth_25 : decode cX0_headOfNth 25 = .ok (.iinc 2 1, 3) := by decide +kernel
theorem dX0_headOfNth_28 : decode cX0_headOfNth 28 = .ok (.iinc 3 (-1), 3) := by decide +kernel
theorem dX0_headOfNth_31 : decode cX0_headOfNth 31 = .ok (.goto (-26), 3) := by decide +kernel
theorem dX0_headOfNth_34 : decode cX0_headOfNth 34 = .ok (.iconst (-1), 1) := by decide +kernel
theorem dX0_headOfNth_35 : decode cX0_headOfNth 35 = .ok (.ireturn, 1) := by decide +kernel
set_option maxRecDepth 20000 in
theorem ggX0_headOf_X0_has : GoodIn wsX0_headOf wsX0_has := goodIn_r _ [4] (by decide +kernel) (by decide +kernel)
set_option maxRecDepth 20000 in
theorem gX0_headOf_X0_has : GoodIn wsX0_headOf (va_wsS RX0 28 yX0_has wsX0_has) := goodIn_app (goodIn_of _ (by decide +kernel)) ggX0_headOf_X0_has
theorem dX0_headOf_0 : decode cX0_headOf 0 = .ok (.bipush 11, 2) := by decide +kernel
theorem dX0_headOf_2 : decode cX0_headOf 2 = .ok (.istore_n 1, 1) := by decide +kernel
theorem dX0_headOf_3 : decode cX0_headOf 3 = .ok (.iload_n 1, 1) := by decide +kernel
theorem dX0_headOf_4 : decode cX0_headOf 4 = .ok (.ifCond .lt 19, 3) := by decide +kernel
theorem dX0_headOf_7 : decode cX0_headOf 7 = .ok (.iload_n 0, 1) := by decide +kernel
theorem dX0_headOf_8 : decode cX0_headOf 8 = .ok (.iload_n 1, 1) := by decide +kernel
theorem dX0_headOf_9 : decode cX0_headOf 9 = .ok (.invokestatic 28, 3) := by decide +kernel
theorem dX0_headOf_12 : decode cX0_headOf 12 = .ok (.ifCond .eq 5, 3) := by decide +kernel
theorem dX0_headOf_15 : decode cX0_headOf 15 = .ok (.iload_n 1, 1) := by decide +kernel
theorem dX0_headOf_16 : decode cX0_headOf 16 = .ok (.ireturn, 1) := by decide +kernel
theorem dX0_headOf_17 : decode cX0_headOf 17 = .ok (.iinc 1 (-1), 3) := by decide +kernel
theorem dX0_headOf_20 : decode cX0_headOf 20 = .ok (.goto (-17), 3) := by decide +kernel
theorem dX0_headOf_23 : decode cX0_headOf 23 = .ok (.iconst (-1), 1) := by decide +kernel
theorem dX0_headOf_24 : decode cX0_headOf 24 = .ok (.ireturn, 1) := by decide +kernel
theorem dX0_has_0 : decode cX0_has 0 = .ok (.iload_n 0, 1) := by decide +kernel
theorem dX0_has_1 : decode cX0_has 1 = .ok (.iload_n 1, 1) := by decide +kernel
theorem dX0_has_2 : decode cX0_has 2 = .ok (.iushr, 1) := by decide +kernel
theorem dX0_has_3 : decode cX0_has 3 = .ok (.iconst 1, 1) := by decide +kernel
theorem dX0_has_4 : decode cX0_has 4 = .ok (.iand, 1) := by decide +kernel
theorem dX0_has_5 : decode cX0_has 5 = .ok (.ifCond .eq 7, 3) := by decide +kernel
theorem dX0_has_8 : decode cX0_has 8 = .ok (.iconst 1, 1) := by decide +kernel
theorem dX0_has_9 : decode cX0_has 9 = .ok (.goto 4, 3) := by decide +kernel
theorem dX0_has_12 : decode cX0_has 12 = .ok (.iconst 0, 1) := by decide +kernel
theorem dX0_has_13 : decode cX0_has 13 = .ok (.ireturn, 1) := by decide +kernel
theorem dX1_init_0 : decode cX1_init 0 = .ok (.aload_n 0, 1) := by decide +kernel
theorem dX1_init_1 : decode cX1_init 1 = .ok (.invokespecial 1, 3) := by decide +kernel
theorem dX1_init_4 : decode cX1_init 4 = .ok (.aload_n 0, 1) := by decide +kernel
theorem dX1_init_5 : decode cX1_init 5 = .ok (.iconst 1, 1) := by decide +kernel
theorem dX1_init_6 : decode cX1_init 6 = .ok (.putfield 7, 3) := by decide +kernel
theorem dX1_init_9 : decode cX1_init 9 = .ok (.return_, 1) := by decide +kernel
theorem dX1_below_0 : decode cX1_below 0 = .ok (.aload_n 0, 1) := by decide +kernel
theorem dX1_below_1 : decode cX1_below 1 = .ok (.aload_n 0, 1) := by decide +kernel
theorem dX1_below_2 : decode cX1_below 2 = .ok (.getfield 7, 3) := by decide +kernel
theorem dX1_below_5 : decode cX1_below 5 = .ok (.ldc 13, 2) := by decide +kernel
theorem dX1_below_7 : decode cX1_below 7 = .ok (.imul, 1) := by decide +kernel
theorem dX1_below_8 : decode cX1_below 8 = .ok (.sipush 12345, 3) := by decide +kernel
theorem dX1_below_11 : decode cX1_below 11 = .ok (.iadd, 1) := by decide +kernel
theorem dX1_below_12 : decode cX1_below 12 = .ok (.putfield 7, 3) := by decide +kernel
theorem dX1_below_15 : decode cX1_below 15 = .ok (.iload_n 1, 1) := by decide +kernel
theorem dX1_below_16 : decode cX1_below 16 = .ok (.iconst 1, 1) := by decide +kernel
theorem dX1_below_17 : decode cX1_below 17 = .ok (.if_icmp .ge 7, 3) := by decide +kernel
theorem dX1_below_20 : decode cX1_below 20 = .ok (.iconst 0, 1) := by decide +kernel
theorem dX1_below_21 : decode cX1_below 21 = .ok (.goto 12, 3) := by decide +kernel
theorem dX1_below_24 : decode cX1_below 24 = .ok (.aload_n 0, 1) := by decide +kernel
theorem dX1_below_25 : decode cX1_below 25 = .ok (.getfield 7, 3) := by decide +kernel
theorem dX1_below_28 : decode cX1_below 28 = .ok (.bipush 16, 2) := by decide +kernel
theorem dX1_below_30 : decode cX1_below 30 = .ok (.iushr, 1) := by decide +kernel
theorem dX1_below_31 : decode cX1_below 31 = .ok (.iload_n 1, 1) := by decide +kernel
theorem dX1_below_32 : decode cX1_below 32 = .ok (.irem, 1) := by decide +kernel
theorem dX1_below_33 : decode cX1_below 33 = .ok (.ireturn, 1) := by decide +kernel
theorem dX2_init_0 : decode cX2_init 0 = .ok (.aload_n 0, 1) := by decide +kernel
theorem dX2_init_1 : decode cX2_init 1 = .ok (.invokespecial 1, 3) := by decide +kernel
theorem dX2_init_4 : decode cX2_init 4 = .ok (.return_, 1) := by decide +kernel
set_option maxRecDepth 20000 in
theorem ggX2_begin_X1_below : GoodIn wsX2_begin wsX1_below := goodIn_r _ [9, 10, 11, 16] (by decide +kernel) (by decide +kernel)
set_option maxRecDepth 20000 in
theorem gX2_begin_X1_below : GoodIn wsX2_begin (wsV RX2 19 RX1 yX1_below wsX1_below) := goodIn_app (goodIn_of _ (by decide +kernel)) ggX2_begin_X1_below
theorem dX2_begin_0 : decode cX2_begin 0 = .ok (.aload_n 0, 1) := by decide +kernel
theorem dX2_begin_1 : decode cX2_begin 1 = .ok (.iload_n 1, 1) := by decide +kernel
theorem dX2_begin_2 : decode cX2_begin 2 = .ok (.putfield 7, 3) := by decide +kernel
theorem dX2_begin_5 : decode cX2_begin 5 = .ok (.aload_n 0, 1) := by decide +kernel
theorem dX2_begin_6 : decode cX2_begin 6 = .ok (.iload_n 2, 1) := by decide +kernel
theorem dX2_begin_7 : decode cX2_begin 7 = .ok (.putfield 13, 3) := by decide +kernel
theorem dX2_begin_10 : decode cX2_begin 10 = .ok (.aload_n 0, 1) := by decide +kernel
theorem dX2_begin_11 : decode cX2_begin 11 = .ok (.iconst 0, 1) := by decide +kernel
theorem dX2_begin_12 : decode cX2_begin 12 = .ok (.putfield 16, 3) := by decide +kernel
theorem dX2_begin_15 : decode cX2_begin 15 = .ok (.aload_n 0, 1) := by decide +kernel
theorem dX2_begin_16 : decode cX2_begin 16 = .ok (.iload_n 2, 1) := by decide +kernel
theorem dX2_begin_17 : decode cX2_begin 17 = .ok (.iload_n 1, 1) := by decide +kernel
theorem dX2_begin_18 : decode cX2_begin 18 = .ok (.iconst 2, 1) := by decide +kernel
theorem dX2_begin_19 : decode cX2_begin 19 = .ok (.idiv, 1) := by decide +kernel
theorem dX2_begin_20 : decode cX2_begin 20 = .ok (.iadd, 1) := by decide +kernel
theorem dX2_begin_21 : decode cX2_begin 21 = .ok (.aload_n 3, 1) := by decide +kernel
theorem dX2_begin_22 : decode cX2_begin 22 = .ok (.iload_n 1, 1) := by decide +kernel
theorem dX2_begin_23 : decode cX2_begin 23 = .ok (.iload_n 1, 1) := by decide +kernel
theorem dX2_begin_24 : decode cX2_begin 24 = .ok (.iconst 2, 1) := by decide +kernel
theorem dX2_begin_25 : decode cX2_begin 25 = .ok (.idiv, 1) := by decide +kernel
theorem dX2_begin_26 : decode cX2_begin 26 = .ok (.isub, 1) := by decide +kernel
theorem dX2_begin_27 : decode cX2_begin 27 = .ok (.invokevirtual 19, 3) := by decide +kernel
theorem dX2_begin_30 : decode cX2_begin 30 = .ok (.iadd, 1) := by decide +kernel
theorem dX2_begin_31 : decode cX2_begin 31 = .ok (.putfield 25, 3) := by decide +kernel
theorem dX2_begin_34 : decode cX2_begin 34 = .ok (.return_, 1) := by decide +kernel
theorem dX3_init_0 : decode cX3_init 0 = .ok (.aload_n 0, 1) := by decide +kernel
theorem dX3_init_1 : decode cX3_init 1 = .ok (.invokespecial 1, 3) := by decide +kernel
theorem dX3_init_4 : decode cX3_init 4 = .ok (.return_, 1) := by decide +kernel
theorem dX3_isSent_0 : decode cX3_isSent 0 = .ok (.aload_n 0, 1) := by decide +kernel
theorem dX3_isSent_1 : decode cX3_isSent 1 = .ok (.getfield 7, 3) := by decide +kernel
theorem dX3_isSent_4 : decode cX3_isSent 4 = .ok (.ifCond .eq 7, 3) := by decide +kernel
theorem dX3_isSent_7 : decode cX3_isSent 7 = .ok (.iconst 1, 1) := by decide +kernel
theorem dX3_isSent_8 : decode cX3_isSent 8 = .ok (.goto 4, 3) := by decide +kernel
theorem dX3_isSent_11 : decode cX3_isSent 11 = .ok (.iconst 0, 1) := by decide +kernel
theorem dX3_isSent_12 : decode cX3_isSent 12 = .ok (.ireturn, 1) := by decide +kernel
set_option maxRecDepth 20000 in
theorem ggX4_init_X0_init : GoodIn wsX4_init wsX0_init := goodIn_r _ [20, 21, 2, 3, 22, 23, 24, 31, 32, 33] (by decide +kernel) (by decide +kernel)
set_option maxRecDepth 20000 in
theorem gX4_init_X0_init_n11 : GoodIn wsX4_init (wsX0_init) := ggX4_init_X0_init
set_option maxRecDepth 20000 in
theorem ggX4_init_X2_init : GoodIn wsX4_init wsX2_init := goodIn_r _ [26, 27, 2, 3] (by decide +kernel) (by decide +kernel)
set_option maxRecDepth 20000 in
theorem gX4_init_X2_init_n20 : GoodIn wsX4_init (wsX2_init) := ggX4_init_X2_init
set_option maxRecDepth 20000 in
theorem ggX4_init_X3_init : GoodIn wsX4_init wsX3_init := goodIn_r _ [29, 30, 2, 3] (by decide +kernel) (by decide +kernel)
set_option maxRecDepth 20000 in
theorem gX4_init_X3_init_n27 : GoodIn wsX4_init (wsX3_init) := ggX4_init_X3_init
theorem dX4_init_0 : decode cX4_init 0 = .ok (.aload_n 0, 1) := by decide +kernel
theorem dX4_init_1 : decode cX4_init 1 = .ok (.invokespecial 3, 3) := by decide +kernel
theorem dX4_init_4 : decode cX4_init 4 = .ok (.aload_n 0, 1) := by decide +kernel
theorem dX4_init_5 : decode cX4_init 5 = .ok (.new 9, 3) := by decide +kernel
theorem dX4_init_8 : decode cX4_init 8 = .ok (.dup, 1) := by decide +kernel
theorem dX4_init_9 : decode cX4_init 9 = .ok (.invokespecial 11, 3) := by decide +kernel
theorem dX4_init_12 : decode cX4_init 12 = .ok (.putfield 12, 3) := by decide +kernel
theorem dX4_init_15 : decode cX4_init 15 = .ok (.aload_n 0, 1) := by decide +kernel
theorem dX4_init_16 : decode cX4_init 16 = .ok (.new 18, 3) := by decide +kernel
theorem dX4_init_19 : decode cX4_init 19 = .ok (.dup, 1) := by decide +kernel
theorem dX4_init_20 : decode cX4_init 20 = .ok (.invokespecial 20, 3) := by decide +kernel
theorem dX4_init_23 : decode cX4_init 23 = .ok (.putfield 21, 3) := by decide +kernel
theorem dX4_init_26 : decode cX4_init 26 = .ok (.aload_n 0, 1) := by decide +kernel
theorem dX4_init_27 : decode cX4_init 27 = .ok (.new 25, 3) := by decide +kernel
theorem dX4_init_30 : decode cX4_init 30 = .ok (.dup, 1) := by decide +kernel
theorem dX4_init_31 : decode cX4_init 31 = .ok (.invokespecial 27, 3) := by decide +kernel
theorem dX4_init_34 : decode cX4_init 34 = .ok (.putfield 28, 3) := by decide +kernel
theorem dX4_init_37 : decode cX4_init 37 = .ok (.aload_n 0, 1) := by decide +kernel
theorem dX4_init_38 : decode cX4_init 38 = .ok (.iconst (-1), 1) := by decide +kernel
theorem dX4_init_39 : decode cX4_init 39 = .ok (.putfield 32, 3) := by decide +kernel
theorem dX4_init_42 : decode cX4_init 42 = .ok (.aload_n 0, 1) := by decide +kernel
theorem dX4_init_43 : decode cX4_init 43 = .ok (.aload_n 1, 1) := by decide +kernel
theorem dX4_init_44 : decode cX4_init 44 = .ok (.putfield 36, 3) := by decide +kernel
theorem dX4_init_47 : decode cX4_init 47 = .ok (.aload_n 0, 1) := by decide +kernel
theorem dX4_init_48 : decode cX4_init 48 = .ok (.aload_n 2, 1) := by decide +kernel
theorem dX4_init_49 : decode cX4_init 49 = .ok (.putfield 40, 3) := by decide +kernel
theorem dX4_init_52 : decode cX4_init 52 = .ok (.return_, 1) := by decide +kernel
set_option maxRecDepth 20000 in
theorem ggX4_keepWhole_X4_keep : GoodIn wsX4_keepWhole wsX4_keep := goodIn_r _ [7, 8, 9, 2, 1, 10, 11, 12, 13, 14, 15, 16, 17, 18, 19, 20, 21, 36, 37, 38, 39, 40, 41, 42, 43, 44, 45, 46, 47, 48, 49, 50, 51, 52, 53, 54, 55, 56] (by decide +kernel) (by decide +kernel)
set_option maxRecDepth 20000 in
theorem gX4_keepWhole_X4_keep : GoodIn wsX4_keepWhole (wsV RX4 44 RX4 yX4_keep wsX4_keep) := goodIn_app (goodIn_of _ (by decide +kernel)) ggX4_keepWhole_X4_keep
set_option maxRecDepth 20000 in
theorem ggX4_keepWhole_X0_takeIn : GoodIn wsX4_keepWhole wsX0_takeIn := goodIn_r _ [25, 15, 16, 17, 26, 27, 13, 28, 29, 30, 31, 54, 55, 56] (by decide +kernel) (by decide +kernel)
set_option maxRecDepth 20000 in
theorem gX4_keepWhole_X0_takeIn : GoodIn wsX4_keepWhole (wsV RX4 48 RX0 yX0_takeIn wsX0_takeIn) := goodIn_app (goodIn_of _ (by decide +kernel)) ggX4_keepWhole_X0_takeIn
set_option maxRecDepth 20000 in
theorem ggX4_keepWhole_X0_sumOfPieces : GoodIn wsX4_keepWhole wsX0_sumOfPieces := goodIn_r _ [35, 16, 54, 55, 56] (by decide +kernel) (by decide +kernel)
set_option maxRecDepth 20000 in
theorem gX4_keepWhole_X0_sumOfPieces : GoodIn wsX4_keepWhole (wsV RX4 52 RX0 yX0_sumOfPieces wsX0_sumOfPieces) := goodIn_app (goodIn_of _ (by decide +kernel)) ggX4_keepWhole_X0_sumOfPieces
theorem dX4_keepWhole_0 : decode cX4_keepWhole 0 = .ok (.aload_n 0, 1) := by decide +kernel
theorem dX4_keepWhole_1 : decode cX4_keepWhole 1 = .ok (.iload_n 1, 1) := by decide +kernel
theorem dX4_keepWhole_2 : decode cX4_keepWhole 2 = .ok (.iload_n 3, 1) := by decide +kernel
theorem dX4_keepWhole_3 : decode cX4_keepWhole 3 = .ok (.iconst 0, 1) := by decide +kernel
theorem dX4_keepWhole_4 : decode cX4_keepWhole 4 = .ok (.invokevirtual 44, 3) := by decide +kernel
theorem dX4_keepWhole_7 : decode cX4_keepWhole 7 = .ok (.iconst 0, 1) := by decide +kernel
theorem dX4_keepWhole_8 : decode cX4_keepWhole 8 = .ok (.istore 4, 2) := by decide +kernel
theorem dX4_keepWhole_10 : decode cX4_keepWhole 10 = .ok (.iload 4, 2) := by decide +kernel
theorem dX4_keepWhole_12 : decode cX4_keepWhole 12 = .ok (.iload_n 3, 1) := by decide +kernel
theorem dX4_keepWhole_13 : decode cX4_keepWhole 13 = .ok (.if_icmp .ge 32, 3) := by decide +kernel
theorem dX4_keepWhole_16 : decode cX4_keepWhole 16 = .ok (.iload 4, 2) := by decide +kernel
theorem dX4_keepWhole_18 : decode cX4_keepWhole 18 = .ok (.aload_n 2, 1) := by decide +kernel
theorem dX4_keepWhole_19 : decode cX4_keepWhole 19 = .ok (.arraylength, 1) := by decide +kernel
theorem dX4_keepWhole_20 : decode cX4_keepWhole 20 = .ok (.if_icmp .ge 25, 3) := by decide +kernel
theorem dX4_keepWhole_23 : decode cX4_keepWhole 23 = .ok (.aload_n 0, 1) := by decide +kernel
theorem dX4_keepWhole_24 : decode cX4_keepWhole 24 = .ok (.getfield 12, 3) := by decide +kernel
theorem dX4_keepWhole_27 : decode cX4_keepWhole 27 = .ok (.iconst 1, 1) := by decide +kernel
theorem dX4_keepWhole_28 : decode cX4_keepWhole 28 = .ok (.iload 4, 2) := by decide +kernel
theorem dX4_keepWhole_30 : decode cX4_keepWhole 30 = .ok (.ishl, 1) := by decide +kernel
theorem dX4_keepWhole_31 : decode cX4_keepWhole 31 = .ok (.aload_n 2, 1) := by decide +kernel
theorem dX4_keepWhole_32 : decode cX4_keepWhole 32 = .ok (.iload 4, 2) := by decide +kernel
theorem dX4_keepWhole_34 : decode cX4_keepWhole 34 = .ok (.iaload, 1) := by decide +kernel
theorem dX4_keepWhole_35 : decode cX4_keepWhole 35 = .ok (.invokevirtual 48, 3) := by decide +kernel
theorem dX4_keepWhole_38 : decode cX4_keepWhole 38 = .ok (.pop, 1) := by decide +kernel
theorem dX4_keepWhole_39 : decode cX4_keepWhole 39 = .ok (.iinc 4 1, 3) := by decide +kernel
theorem dX4_keepWhole_42 : decode cX4_keepWhole 42 = .ok (.goto (-32), 3) := by decide +kernel
theorem dX4_keepWhole_45 : decode cX4_keepWhole 45 = .ok (.aload_n 0, 1) := by decide +kernel
theorem dX4_keepWhole_46 : decode cX4_keepWhole 46 = .ok (.aload_n 0, 1) := by decide +kernel
theorem dX4_keepWhole_47 : decode cX4_keepWhole 47 = .ok (.getfield 12, 3) := by decide +kernel
theorem dX4_keepWhole_50 : decode cX4_keepWhole 50 = .ok (.invokevirtual 52, 3) := by decide +kernel
theorem dX4_keepWhole_53 : decode cX4_keepWhole 53 = .ok (.putfield 56, 3) := by decide +kernel
theorem dX4_keepWhole_56 : decode cX4_keepWhole 56 = .ok (.return_, 1) := by decide +kernel
set_option maxRecDepth 20000 in
theorem ggX4_keep_X0_empty : GoodIn wsX4_keep wsX0_empty := goodIn_r _ [9, 10, 11, 12, 13, 14, 15, 16, 35, 36, 37] (by decide +kernel) (by decide +kernel)
set_option maxRecDepth 20000 in
theorem gX4_keep_X0_empty : GoodIn wsX4_keep (wsV RX4 65 RX0 yX0_empty wsX0_empty) := goodIn_app (goodIn_of _ (by decide +kernel)) ggX4_keep_X0_empty
theorem dX4_keep_0 : decode cX4_keep 0 = .ok (.aload_n 0, 1) := by decide +kernel
theorem dX4_keep_1 : decode cX4_keep 1 = .ok (.iload_n 1, 1) := by decide +kernel
theorem dX4_keep_2 : decode cX4_keep 2 = .ok (.putfield 59, 3) := by decide +kernel
theorem dX4_keep_5 : decode cX4_keep 5 = .ok (.aload_n 0, 1) := by decide +kernel
theorem dX4_keep_6 : decode cX4_keep 6 = .ok (.iload_n 2, 1) := by decide +kernel
theorem dX4_keep_7 : decode cX4_keep 7 = .ok (.putfield 62, 3) := by decide +kernel
theorem dX4_keep_10 : decode cX4_keep 10 = .ok (.aload_n 0, 1) := by decide +kernel
theorem dX4_keep_11 : decode cX4_keep 11 = .ok (.iload_n 3, 1) := by decide +kernel
theorem dX4_keep_12 : decode cX4_keep 12 = .ok (.putfield 56, 3) := by decide +kernel
theorem dX4_keep_15 : decode cX4_keep 15 = .ok (.aload_n 0, 1) := by decide +kernel
theorem dX4_keep_16 : decode cX4_keep 16 = .ok (.getfield 12, 3) := by decide +kernel
theorem dX4_keep_19 : decode cX4_keep 19 = .ok (.invokevirtual 65, 3) := by decide +kernel
theorem dX4_keep_22 : decode cX4_keep 22 = .ok (.return_, 1) := by decide +kernel
theorem dX4_isWhole_0 : decode cX4_isWhole 0 = .ok (.aload_n 0, 1) := by decide +kernel
theorem dX4_isWhole_1 : decode cX4_isWhole 1 = .ok (.getfield 59, 3) := by decide +kernel
theorem dX4_isWhole_4 : decode cX4_isWhole 4 = .ok (.ifCond .eq 21, 3) := by decide +kernel
theorem dX4_isWhole_7 : decode cX4_isWhole 7 = .ok (.aload_n 0, 1) := by decide +kernel
theorem dX4_isWhole_8 : decode cX4_isWhole 8 = .ok (.getfield 12, 3) := by decide +kernel
theorem dX4_isWhole_11 : decode cX4_isWhole 11 = .ok (.getfield 68, 3) := by decide +kernel
theorem dX4_isWhole_14 : decode cX4_isWhole 14 = .ok (.aload_n 0, 1) := by decide +kernel
theorem dX4_isWhole_15 : decode cX4_isWhole 15 = .ok (.getfield 62, 3) := by decide +kernel
theorem dX4_isWhole_18 : decode cX4_isWhole 18 = .ok (.if_icmp .ne 7, 3) := by decide +kernel
theorem dX4_isWhole_21 : decode cX4_isWhole 21 = .ok (.iconst 1, 1) := by decide +kernel
theorem dX4_isWhole_22 : decode cX4_isWhole 22 = .ok (.goto 4, 3) := by decide +kernel
theorem dX4_isWhole_25 : decode cX4_isWhole 25 = .ok (.iconst 0, 1) := by decide +kernel
theorem dX4_isWhole_26 : decode cX4_isWhole 26 = .ok (.ireturn, 1) := by decide +kernel
set_option maxRecDepth 20000 in
theorem ggX4_isWholeOf_X4_isWhole : GoodIn wsX4_isWholeOf wsX4_isWhole := goodIn_r _ [6, 1, 7, 8, 9, 10, 11, 12, 13, 14, 15, 16, 17, 18, 19, 20, 21, 22, 23, 24, 25, 26, 27, 28, 29] (by decide +kernel) (by decide +kernel)
set_option maxRecDepth 20000 in
theorem gX4_isWholeOf_X4_isWhole : GoodIn wsX4_isWholeOf (wsV RX4 71 RX4 yX4_isWhole wsX4_isWhole) := goodIn_app (goodIn_of _ (by decide +kernel)) ggX4_isWholeOf_X4_isWhole
theorem dX4_isWholeOf_0 : decode cX4_isWholeOf 0 = .ok (.aload_n 0, 1) := by decide +kernel
theorem dX4_isWholeOf_1 : decode cX4_isWholeOf 1 = .ok (.getfield 59, 3) := by decide +kernel
theorem dX4_isWholeOf_4 : decode cX4_isWholeOf 4 = .ok (.iload_n 1, 1) := by decide +kernel
theorem dX4_isWholeOf_5 : decode cX4_isWholeOf 5 = .ok (.if_icmp .ne 14, 3) := by decide +kernel
theorem dX4_isWholeOf_8 : decode cX4_isWholeOf 8 = .ok (.aload_n 0, 1) := by decide +kernel
theorem dX4_isWholeOf_9 : decode cX4_isWholeOf 9 = .ok (.invokevirtual 71, 3) := by decide +kernel
theorem dX4_isWholeOf_12 : decode cX4_isWholeOf 12 = .ok (.ifCond .eq 7, 3) := by decide +kernel
theorem dX4_isWholeOf_15 : decode cX4_isWholeOf 15 = .ok (.iconst 1, 1) := by decide +kernel
theorem dX4_isWholeOf_16 : decode cX4_isWholeOf 16 = .ok (.goto 4, 3) := by decide +kernel
theorem dX4_isWholeOf_19 : decode cX4_isWholeOf 19 = .ok (.iconst 0, 1) := by decide +kernel
theorem dX4_isWholeOf_20 : decode cX4_isWholeOf 20 = .ok (.ireturn, 1) := by decide +kernel
set_option maxRecDepth 20000 in
theorem ggX4_stir_X2_begin : GoodIn wsX4_stir wsX2_begin := goodIn_r _ [8, 9, 10, 11, 12, 13, 14, 15, 16, 17, 18, 19, 38, 39, 40, 41, 46] (by decide +kernel) (by decide +kernel)
set_option maxRecDepth 20000 in
theorem gX4_stir_X2_begin : GoodIn wsX4_stir (wsV RX4 83 RX2 yX2_begin wsX2_begin) := goodIn_app (goodIn_of _ (by decide +kernel)) ggX4_stir_X2_begin
theorem dX4_stir_0 : decode cX4_stir 0 = .ok (.aload_n 0, 1) := by decide +kernel
theorem dX4_stir_1 : decode cX4_stir 1 = .ok (.getfield 21, 3) := by decide +kernel
theorem dX4_stir_4 : decode cX4_stir 4 = .ok (.getfield 75, 3) := by decide +kernel
theorem dX4_stir_7 : decode cX4_stir 7 = .ok (.aload_n 0, 1) := by decide +kernel
theorem dX4_stir_8 : decode cX4_stir 8 = .ok (.getfield 36, 3) := by decide +kernel
theorem dX4_stir_11 : decode cX4_stir 11 = .ok (.getfield 78, 3) := by decide +kernel
theorem dX4_stir_14 : decode cX4_stir 14 = .ok (.if_icmp .le 24, 3) := by decide +kernel
theorem dX4_stir_17 : decode cX4_stir 17 = .ok (.aload_n 0, 1) := by decide +kernel
theorem dX4_stir_18 : decode cX4_stir 18 = .ok (.getfield 21, 3) := by decide +kernel
theorem dX4_stir_21 : decode cX4_stir 21 = .ok (.aload_n 0, 1) := by decide +kernel
theorem dX4_stir_22 : decode cX4_stir 22 = .ok (.getfield 36, 3) := by decide +kernel
theorem dX4_stir_25 : decode cX4_stir 25 = .ok (.getfield 78, 3) := by decide +kernel
theorem dX4_stir_28 : decode cX4_stir 28 = .ok (.iload_n 1, 1) := by decide +kernel
theorem dX4_stir_29 : decode cX4_stir 29 = .ok (.iconst 1, 1) := by decide +kernel
theorem dX4_stir_30 : decode cX4_stir 30 = .ok (.iadd, 1) := by decide +kernel
theorem dX4_stir_31 : decode cX4_stir 31 = .ok (.aload_n 0, 1) := by decide +kernel
theorem dX4_stir_32 : decode cX4_stir 32 = .ok (.getfield 40, 3) := by decide +kernel
theorem dX4_stir_35 : decode cX4_stir 35 = .ok (.invokevirtual 83, 3) := by decide +kernel
theorem dX4_stir_38 : decode cX4_stir 38 = .ok (.return_, 1) := by decide +kernel
theorem dX4_takeTurn_0 : decode cX4_takeTurn 0 = .ok (.iload_n 1, 1) := by decide +kernel
theorem dX4_takeTurn_1 : decode cX4_takeTurn 1 = .ok (.aload_n 0, 1) := by decide +kernel
theorem dX4_takeTurn_2 : decode cX4_takeTurn 2 = .ok (.getfield 87, 3) := by decide +kernel
theorem dX4_takeTurn_5 : decode cX4_takeTurn 5 = .ok (.if_icmp .gt 5, 3) := by decide +kernel
theorem dX4_takeTurn_8 : decode cX4_takeTurn 8 = .ok (.iconst 0, 1) := by decide +kernel
theorem dX4_takeTurn_9 : decode cX4_takeTurn 9 = .ok (.ireturn, 1) := by decide +kernel
theorem dX4_takeTurn_10 : decode cX4_takeTurn 10 = .ok (.aload_n 0, 1) := by decide +kernel
theorem dX4_takeTurn_11 : decode cX4_takeTurn 11 = .ok (.iload_n 1, 1) := by decide +kernel
theorem dX4_takeTurn_12 : decode cX4_takeTurn 12 = .ok (.putfield 87, 3) := by decide +kernel
theorem dX4_takeTurn_15 : decode cX4_takeTurn 15 = .ok (.aload_n 0, 1) := by decide +kernel
theorem dX4_takeTurn_16 : decode cX4_takeTurn 16 = .ok (.iload_n 2, 1) := by decide +kernel
theorem dX4_takeTurn_17 : decode cX4_takeTurn 17 = .ok (.putfield 90, 3) := by decide +kernel
theorem dX4_takeTurn_20 : decode cX4_takeTurn 20 = .ok (.iconst 1, 1) := by decide +kernel
theorem dX4_takeTurn_21 : decode cX4_takeTurn 21 = .ok (.ireturn, 1) := by decide +kernel
set_option maxRecDepth 20000 in
theorem ggX4_losePower_X0_tearLeast : GoodIn wsX4_losePower wsX0_tearLeast := goodIn_r _ [12, 13, 14, 15, 54, 55, 56] (by decide +kernel) (by decide +kernel)
set_option maxRecDepth 20000 in
theorem gX4_losePower_X0_tearLeast : GoodIn wsX4_losePower (wsV RX4 93 RX0 yX0_tearLeast wsX0_tearLeast) := goodIn_app (goodIn_of _ (by decide +kernel)) ggX4_losePower_X0_tearLeast
set_option maxRecDepth 20000 in
theorem ggX4_losePower_X2_begin : GoodIn wsX4_losePower wsX2_begin := goodIn_r _ [20, 21, 22, 23, 24, 25, 26, 27, 28, 29, 30, 31, 57, 58, 59, 60, 61] (by decide +kernel) (by decide +kernel)
set_option maxRecDepth 20000 in
theorem gX4_losePower_X2_begin : GoodIn wsX4_losePower (wsV RX4 83 RX2 yX2_begin wsX2_begin) := goodIn_app (goodIn_of _ (by decide +kernel)) ggX4_losePower_X2_begin
theorem dX4_losePower_0 : decode cX4_losePower 0 = .ok (.iload_n 1, 1) := by decide +kernel
theorem dX4_losePower_1 : decode cX4_losePower 1 = .ok (.ifCond .eq 10, 3) := by decide +kernel
theorem dX4_losePower_4 : decode cX4_losePower 4 = .ok (.aload_n 0, 1) := by decide +kernel
theorem dX4_losePower_5 : decode cX4_losePower 5 = .ok (.getfield 12, 3) := by decide +kernel
theorem dX4_losePower_8 : decode cX4_losePower 8 = .ok (.invokevirtual 93, 3) := by decide +kernel
theorem dX4_losePower_11 : decode cX4_losePower 11 = .ok (.aload_n 0, 1) := by decide +kernel
theorem dX4_losePower_12 : decode cX4_losePower 12 = .ok (.getfield 21, 3) := by decide +kernel
theorem dX4_losePower_15 : decode cX4_losePower 15 = .ok (.aload_n 0, 1) := by decide +kernel
theorem dX4_losePower_16 : decode cX4_losePower 16 = .ok (.getfield 36, 3) := by decide +kernel
theorem dX4_losePower_19 : decode cX4_losePower 19 = .ok (.getfield 78, 3) := by decide +kernel
theorem dX4_losePower_22 : decode cX4_losePower 22 = .ok (.iload_n 2, 1) := by decide +kernel
theorem dX4_losePower_23 : decode cX4_losePower 23 = .ok (.aload_n 0, 1) := by decide +kernel
theorem dX4_losePower_24 : decode cX4_losePower 24 = .ok (.getfield 40, 3) := by decide +kernel
theorem dX4_losePower_27 : decode cX4_losePower 27 = .ok (.invokevirtual 83, 3) := by decide +kernel
theorem dX4_losePower_30 : decode cX4_losePower 30 = .ok (.aload_n 0, 1) := by decide +kernel
theorem dX4_losePower_31 : decode cX4_losePower 31 = .ok (.iconst (-1), 1) := by decide +kernel
theorem dX4_losePower_32 : decode cX4_losePower 32 = .ok (.putfield 32, 3) := by decide +kernel
theorem dX4_losePower_35 : decode cX4_losePower 35 = .ok (.aload_n 0, 1) := by decide +kernel
theorem dX4_losePower_36 : decode cX4_losePower 36 = .ok (.iconst 0, 1) := by decide +kernel
theorem dX4_losePower_37 : decode cX4_losePower 37 = .ok (.putfield 87, 3) := by decide +kernel
theorem dX4_losePower_40 : decode cX4_losePower 40 = .ok (.aload_n 0, 1) := by decide +kernel
theorem dX4_losePower_41 : decode cX4_losePower 41 = .ok (.iconst 0, 1) := by decide +kernel
theorem dX4_losePower_42 : decode cX4_losePower 42 = .ok (.putfield 90, 3) := by decide +kernel
theorem dX4_losePower_45 : decode cX4_losePower 45 = .ok (.return_, 1) := by decide +kernel
set_option maxRecDepth 20000 in
theorem ggX4_send_X1_below : GoodIn wsX4_send wsX1_below := goodIn_r _ [13, 14, 15, 86] (by decide +kernel) (by decide +kernel)
set_option maxRecDepth 20000 in
theorem gX4_send_X1_below : GoodIn wsX4_send (wsV RX4 96 RX1 yX1_below wsX1_below) := goodIn_app (goodIn_of _ (by decide +kernel)) ggX4_send_X1_below
set_option maxRecDepth 20000 in
theorem ggX4_send_X0_mixInto : GoodIn wsX4_send wsX0_mixInto := goodIn_r _ [20, 21, 22, 23, 24, 19, 25, 26, 27, 28, 29, 30, 31, 32, 33, 34, 35, 36, 37, 77, 78, 79, 80, 81, 82, 83, 84, 85, 66, 67, 68] (by decide +kernel) (by decide +kernel)
set_option maxRecDepth 20000 in
theorem gX4_send_X0_mixInto : GoodIn wsX4_send (wsV RX4 102 RX0 yX0_mixInto wsX0_mixInto) := goodIn_app (goodIn_of _ (by decide +kernel)) ggX4_send_X0_mixInto
set_option maxRecDepth 20000 in
theorem ggX4_send_X4_address : GoodIn wsX4_send wsX4_address := goodIn_r _ [42, 3, 43, 2, 44, 45, 46, 47, 48, 49, 50, 51, 52, 53, 54, 55, 56, 57, 58, 59, 60, 61, 62, 63, 64, 65, 77, 78, 79, 80, 81, 82, 83, 84, 85, 66, 67, 68] (by decide +kernel) (by decide +kernel)
set_option maxRecDepth 20000 in
theorem gX4_send_X4_address : GoodIn wsX4_send (wsV RX4 106 RX4 yX4_address wsX4_address) := goodIn_app (goodIn_of _ (by decide +kernel)) ggX4_send_X4_address
theorem dX4_send_0 : decode cX4_send 0 = .ok (.aload_n 0, 1) := by decide +kernel
theorem dX4_send_1 : decode cX4_send 1 = .ok (.getfield 32, 3) := by decide +kernel
theorem dX4_send_4 : decode cX4_send 4 = .ok (.iload_n 1, 1) := by decide +kernel
theorem dX4_send_5 : decode cX4_send 5 = .ok (.if_icmp .ne 7, 3) := by decide +kernel
theorem dX4_send_8 : decode cX4_send 8 = .ok (.iconst 1, 1) := by decide +kernel
theorem dX4_send_9 : decode cX4_send 9 = .ok (.goto 4, 3) := by decide +kernel
theorem dX4_send_12 : decode cX4_send 12 = .ok (.iconst 0, 1) := by decide +kernel
theorem dX4_send_13 : decode cX4_send 13 = .ok (.istore_n 2, 1) := by decide +kernel
theorem dX4_send_14 : decode cX4_send 14 = .ok (.iload_n 2, 1) := by decide +kernel
theorem dX4_send_15 : decode cX4_send 15 = .ok (.ifCond .eq 8, 3) := by decide +kernel
theorem dX4_send_18 : decode cX4_send 18 = .ok (.aload_n 0, 1) := by decide +kernel
theorem dX4_send_19 : decode cX4_send 19 = .ok (.iconst (-1), 1) := by decide +kernel
theorem dX4_send_20 : decode cX4_send 20 = .ok (.putfield 32, 3) := by decide +kernel
theorem dX4_send_23 : decode cX4_send 23 = .ok (.iload_n 2, 1) := by decide +kernel
theorem dX4_send_24 : decode cX4_send 24 = .ok (.ifCond .eq 52, 3) := by decide +kernel
theorem dX4_send_27 : decode cX4_send 27 = .ok (.aload_n 0, 1) := by decide +kernel
theorem dX4_send_28 : decode cX4_send 28 = .ok (.getfield 12, 3) := by decide +kernel
theorem dX4_send_31 : decode cX4_send 31 = .ok (.getfield 68, 3) := by decide +kernel
theorem dX4_send_34 : decode cX4_send 34 = .ok (.ifCond .le 42, 3) := by decide +kernel
theorem dX4_send_37 : decode cX4_send 37 = .ok (.aload_n 0, 1) := by decide +kernel
theorem dX4_send_38 : decode cX4_send 38 = .ok (.getfield 12, 3) := by decide +kernel
theorem dX4_send_41 : decode cX4_send 41 = .ok (.aload_n 0, 1) := by decide +kernel
theorem dX4_send_42 : decode cX4_send 42 = .ok (.getfield 28, 3) := by decide +kernel
theorem dX4_send_45 : decode cX4_send 45 = .ok (.aload_n 0, 1) := by decide +kernel
theorem dX4_send_46 : decode cX4_send 46 = .ok (.getfield 40, 3) := by decide +kernel
theorem dX4_send_49 : decode cX4_send 49 = .ok (.sipush 4096, 3) := by decide +kernel
theorem dX4_send_52 : decode cX4_send 52 = .ok (.invokevirtual 96, 3) := by decide +kernel
theorem dX4_send_55 : decode cX4_send 55 = .ok (.invokevirtual 102, 3) := by decide +kernel
theorem dX4_send_58 : decode cX4_send 58 = .ok (.aload_n 0, 1) := by decide +kernel
theorem dX4_send_59 : decode cX4_send 59 = .ok (.iconst 2, 1) := by decide +kernel
theorem dX4_send_60 : decode cX4_send 60 = .ok (.invokevirtual 106, 3) := by decide +kernel
theorem dX4_send_63 : decode cX4_send 63 = .ok (.aload_n 0, 1) := by decide +kernel
theorem dX4_send_64 : decode cX4_send 64 = .ok (.dup, 1) := by decide +kernel
theorem dX4_send_65 : decode cX4_send 65 = .ok (.getfield 110, 3) := by decide +kernel
theorem dX4_send_68 : decode cX4_send 68 = .ok (.iconst 1, 1) := by decide +kernel
theorem dX4_send_69 : decode cX4_send 69 = .ok (.iadd, 1) := by decide +kernel
theorem dX4_send_70 : decode cX4_send 70 = .ok (.putfield 110, 3) := by decide +kernel
theorem dX4_send_73 : decode cX4_send 73 = .ok (.goto 57, 3) := by decide +kernel
theorem dX4_send_76 : decode cX4_send 76 = .ok (.aload_n 0, 1) := by decide +kernel
theorem dX4_send_77 : decode cX4_send 77 = .ok (.getfield 21, 3) := by decide +kernel
theorem dX4_send_80 : decode cX4_send 80 = .ok (.getfield 113, 3) := by decide +kernel
theorem dX4_send_83 : decode cX4_send 83 = .ok (.iload_n 1, 1) := by decide +kernel
theorem dX4_send_84 : decode cX4_send 84 = .ok (.if_icmp .ne 38, 3) := by decide +kernel
theorem dX4_send_87 : decode cX4_send 87 = .ok (.aload_n 0, 1) := by decide +kernel
theorem dX4_send_88 : decode cX4_send 88 = .ok (.getfield 21, 3) := by decide +kernel
theorem dX4_send_91 : decode cX4_send 91 = .ok (.getfield 116, 3) := by decide +kernel
theorem dX4_send_94 : decode cX4_send 94 = .ok (.aload_n 0, 1) := by decide +kernel
theorem dX4_send_95 : decode cX4_send 95 = .ok (.getfield 36, 3) := by decide +kernel
theorem dX4_send_98 : decode cX4_send 98 = .ok (.getfield 119, 3) := by decide +kernel
theorem dX4_send_101 : decode cX4_send 101 = .ok (.if_icmp .ge 21, 3) := by decide +kernel
theorem dX4_send_104 : decode cX4_send 104 = .ok (.aload_n 0, 1) := by decide +kernel
theorem dX4_send_105 : decode cX4_send 105 = .ok (.iconst 1, 1) := by decide +kernel
theorem dX4_send_106 : decode cX4_send 106 = .ok (.invokevirtual 106, 3) := by decide +kernel
theorem dX4_send_109 : decode cX4_send 109 = .ok (.aload_n 0, 1) := by decide +kernel
theorem dX4_send_110 : decode cX4_send 110 = .ok (.dup, 1) := by decide +kernel
theorem dX4_send_111 : decode cX4_send 111 = .ok (.getfield 122, 3) := by decide +kernel
theorem dX4_send_114 : decode cX4_send 114 = .ok (.iconst 1, 1) := by decide +kernel
theorem dX4_send_115 : decode cX4_send 115 = .ok (.iadd, 1) := by decide +kernel
theorem dX4_send_116 : decode cX4_send 116 = .ok (.putfield 122, 3) := by decide +kernel
theorem dX4_send_119 : decode cX4_send 119 = .ok (.goto 11, 3) := by decide +kernel
theorem dX4_send_122 : decode cX4_send 122 = .ok (.aload_n 0, 1) := by decide +kernel
theorem dX4_send_123 : decode cX4_send 123 = .ok (.getfield 28, 3) := by decide +kernel
theorem dX4_send_126 : decode cX4_send 126 = .ok (.iconst 0, 1) := by decide +kernel
theorem dX4_send_127 : decode cX4_send 127 = .ok (.putfield 125, 3) := by decide +kernel
theorem dX4_send_130 : decode cX4_send 130 = .ok (.return_, 1) := by decide +kernel
theorem dX4_address_0 : decode cX4_address 0 = .ok (.aload_n 0, 1) := by decide +kernel
theorem dX4_address_1 : decode cX4_address 1 = .ok (.getfield 28, 3) := by decide +kernel
theorem dX4_address_4 : decode cX4_address 4 = .ok (.iload_n 1, 1) := by decide +kernel
theorem dX4_address_5 : decode cX4_address 5 = .ok (.putfield 125, 3) := by decide +kernel
theorem dX4_address_8 : decode cX4_address 8 = .ok (.aload_n 0, 1) := by decide +kernel
theorem dX4_address_9 : decode cX4_address 9 = .ok (.getfield 28, 3) := by decide +kernel
theorem dX4_address_12 : decode cX4_address 12 = .ok (.aload_n 0, 1) := by decide +kernel
theorem dX4_address_13 : decode cX4_address 13 = .ok (.getfield 59, 3) := by decide +kernel
theorem dX4_address_16 : decode cX4_address 16 = .ok (.putfield 128, 3) := by decide +kernel
theorem dX4_address_19 : decode cX4_address 19 = .ok (.aload_n 0, 1) := by decide +kernel
theorem dX4_address_20 : decode cX4_address 20 = .ok (.getfield 28, 3) := by decide +kernel
theorem dX4_address_23 : decode cX4_address 23 = .ok (.aload_n 0, 1) := by decide +kernel
theorem dX4_address_24 : decode cX4_address 24 = .ok (.getfield 12, 3) := by decide +kernel
theorem dX4_address_27 : decode cX4_address 27 = .ok (.getfield 68, 3) := by decide +kernel
theorem dX4_address_30 : decode cX4_address 30 = .ok (.putfield 129, 3) := by decide +kernel
theorem dX4_address_33 : decode cX4_address 33 = .ok (.aload_n 0, 1) := by decide +kernel
theorem dX4_address_34 : decode cX4_address 34 = .ok (.getfield 28, 3) := by decide +kernel
theorem dX4_address_37 : decode cX4_address 37 = .ok (.aload_n 0, 1) := by decide +kernel
theorem dX4_address_38 : decode cX4_address 38 = .ok (.getfield 62, 3) := by decide +kernel
theorem dX4_address_41 : decode cX4_address 41 = .ok (.putfield 130, 3) := by decide +kernel
theorem dX4_address_44 : decode cX4_address 44 = .ok (.aload_n 0, 1) := by decide +kernel
theorem dX4_address_45 : decode cX4_address 45 = .ok (.getfield 28, 3) := by decide +kernel
theorem dX4_address_48 : decode cX4_address 48 = .ok (.aload_n 0, 1) := by decide +kernel
theorem dX4_address_49 : decode cX4_address 49 = .ok (.getfield 56, 3) := by decide +kernel
theorem dX4_address_52 : decode cX4_address 52 = .ok (.putfield 131, 3) := by decide +kernel
theorem dX4_address_55 : decode cX4_address 55 = .ok (.aload_n 0, 1) := by decide +kernel
theorem dX4_address_56 : decode cX4_address 56 = .ok (.getfield 28, 3) := by decide +kernel
theorem dX4_address_59 : decode cX4_address 59 = .ok (.aload_n 0, 1) := by decide +kernel
theorem dX4_address_60 : decode cX4_address 60 = .ok (.getfield 87, 3) := by decide +kernel
theorem dX4_address_63 : decode cX4_address 63 = .ok (.putfield 134, 3) := by decide +kernel
theorem dX4_address_66 : decode cX4_address 66 = .ok (.aload_n 0, 1) := by decide +kernel
theorem dX4_address_67 : decode cX4_address 67 = .ok (.getfield 28, 3) := by decide +kernel
theorem dX4_address_70 : decode cX4_address 70 = .ok (.aload_n 0, 1) := by decide +kernel
theorem dX4_address_71 : decode cX4_address 71 = .ok (.getfield 90, 3) := by decide +kernel
theorem dX4_address_74 : decode cX4_address 74 = .ok (.putfield 135, 3) := by decide +kernel
theorem dX4_address_77 : decode cX4_address 77 = .ok (.return_, 1) := by decide +kernel
set_option maxRecDepth 20000 in
theorem ggX4_take_X4_takeTurn : GoodIn wsX4_take wsX4_takeTurn := goodIn_r _ [5, 6, 7, 89, 90, 91, 92, 93, 94, 95, 96, 97, 98, 99, 100, 101, 102, 103, 104, 105, 106] (by decide +kernel) (by decide +kernel)
set_option maxRecDepth 20000 in
theorem gX4_take_X4_takeTurn : GoodIn wsX4_take (wsV RX4 136 RX4 yX4_takeTurn wsX4_takeTurn) := goodIn_app (goodIn_of _ (by decide +kernel)) ggX4_take_X4_takeTurn
set_option maxRecDepth 20000 in
theorem ggX4_take_X4_takeTell : GoodIn wsX4_take wsX4_takeTell := goodIn_r _ [11, 12, 13, 14, 15, 16, 17, 18, 19, 20, 4, 21, 22, 23, 24, 25, 26, 27, 28, 29, 30, 31, 32, 33, 34, 35, 36, 37, 38, 80, 81, 82, 83, 84, 85, 86, 87, 88, 89, 90, 91, 92, 93, 94, 95, 96, 97, 98, 99, 100, 101, 102, 103, 104, 105, 106, 107, 108, 109, 110, 111, 112, 113, 114, 115, 116, 117, 118] (by decide +kernel) (by decide +kernel)
set_option maxRecDepth 20000 in
theorem gX4_take_X4_takeTell : GoodIn wsX4_take (wsV RX4 139 RX4 yX4_takeTell wsX4_takeTell) := goodIn_app (goodIn_of _ (by decide +kernel)) ggX4_take_X4_takeTell
set_option maxRecDepth 20000 in
theorem ggX4_take_X4_takeMix : GoodIn wsX4_take wsX4_takeMix := goodIn_r _ [42, 12, 43, 44, 45, 46, 47, 4, 48, 13, 49, 50, 51, 52, 53, 54, 55, 56, 57, 58, 59, 60, 61, 62, 63, 64, 15, 65, 66, 67, 68, 69, 70, 71, 72, 73, 74, 75, 76, 77, 78, 79, 18, 19, 20, 21, 14, 17, 16, 22, 23, 24, 25, 26, 27, 28, 29, 30, 31, 32, 33, 34, 35, 36, 37, 80, 81, 82, 83, 84, 85, 86, 87, 88, 89, 90, 91, 92, 93, 94, 95, 96, 97, 98, 99, 100, 101, 102, 103, 104, 105, 106, 107, 108, 109, 110, 111, 112, 113, 114, 115, 116, 117, 118] (by decide +kernel) (by decide +kernel)
set_option maxRecDepth 20000 in
theorem gX4_take_X4_takeMix : GoodIn wsX4_take (wsV RX4 142 RX4 yX4_takeMix wsX4_takeMix) := goodIn_app (goodIn_of _ (by decide +kernel)) ggX4_take_X4_takeMix
theorem dX4_take_0 : decode cX4_take 0 = .ok (.aload_n 0, 1) := by decide +kernel
theorem dX4_take_1 : decode cX4_take 1 = .ok (.aload_n 1, 1) := by decide +kernel
theorem dX4_take_2 : decode cX4_take 2 = .ok (.getfield 134, 3) := by decide +kernel
theorem dX4_take_5 : decode cX4_take 5 = .ok (.aload_n 1, 1) := by decide +kernel
theorem dX4_take_6 : decode cX4_take 6 = .ok (.getfield 135, 3) := by decide +kernel
theorem dX4_take_9 : decode cX4_take 9 = .ok (.invokevirtual 136, 3) := by decide +kernel
theorem dX4_take_12 : decode cX4_take 12 = .ok (.pop, 1) := by decide +kernel
theorem dX4_take_13 : decode cX4_take 13 = .ok (.aload_n 1, 1) := by decide +kernel
theorem dX4_take_14 : decode cX4_take 14 = .ok (.getfield 125, 3) := by decide +kernel
theorem dX4_take_17 : decode cX4_take 17 = .ok (.iconst 1, 1) := by decide +kernel
theorem dX4_take_18 : decode cX4_take 18 = .ok (.if_icmp .ne 12, 3) := by decide +kernel
theorem dX4_take_21 : decode cX4_take 21 = .ok (.aload_n 0, 1) := by decide +kernel
theorem dX4_take_22 : decode cX4_take 22 = .ok (.aload_n 1, 1) := by decide +kernel
theorem dX4_take_23 : decode cX4_take 23 = .ok (.iload_n 2, 1) := by decide +kernel
theorem dX4_take_24 : decode cX4_take 24 = .ok (.invokevirtual 139, 3) := by decide +kernel
theorem dX4_take_27 : decode cX4_take 27 = .ok (.goto 9, 3) := by decide +kernel
theorem dX4_take_30 : decode cX4_take 30 = .ok (.aload_n 0, 1) := by decide +kernel
theorem dX4_take_31 : decode cX4_take 31 = .ok (.aload_n 1, 1) := by decide +kernel
theorem dX4_take_32 : decode cX4_take 32 = .ok (.iload_n 2, 1) := by decide +kernel
theorem dX4_take_33 : decode cX4_take 33 = .ok (.invokevirtual 142, 3) := by decide +kernel
theorem dX4_take_36 : decode cX4_take 36 = .ok (.return_, 1) := by decide +kernel
set_option maxRecDepth 20000 in
theorem ggX4_takeTell_X4_stir : GoodIn wsX4_takeTell wsX4_stir := goodIn_r _ [11, 3, 6, 5, 12, 13, 14, 15, 16, 17, 18, 19, 20, 21, 22, 23, 24, 25, 26, 27, 38, 39, 40, 41, 42, 43, 44, 45, 46, 47, 48, 49, 50, 51, 52, 53, 54, 55, 59, 60, 61, 62, 63, 64, 65, 66, 67] (by decide +kernel) (by decide +kernel)
set_option maxRecDepth 20000 in
theorem gX4_takeTell_X4_stir : GoodIn wsX4_takeTell (wsV RX4 145 RX4 yX4_stir wsX4_stir) := goodIn_app (goodIn_of _ (by decide +kernel)) ggX4_takeTell_X4_stir
set_option maxRecDepth 20000 in
theorem ggX4_takeTell_X1_below : GoodIn wsX4_takeTell wsX1_below := goodIn_r _ [25, 26, 27, 67] (by decide +kernel) (by decide +kernel)
set_option maxRecDepth 20000 in
theorem gX4_takeTell_X1_below : GoodIn wsX4_takeTell (wsV RX4 96 RX1 yX1_below wsX1_below) := goodIn_app (goodIn_of _ (by decide +kernel)) ggX4_takeTell_X1_below
theorem dX4_takeTell_0 : decode cX4_takeTell 0 = .ok (.aload_n 1, 1) := by decide +kernel
theorem dX4_takeTell_1 : decode cX4_takeTell 1 = .ok (.getfield 128, 3) := by decide +kernel
theorem dX4_takeTell_4 : decode cX4_takeTell 4 = .ok (.aload_n 0, 1) := by decide +kernel
theorem dX4_takeTell_5 : decode cX4_takeTell 5 = .ok (.getfield 59, 3) := by decide +kernel
theorem dX4_takeTell_8 : decode cX4_takeTell 8 = .ok (.if_icmp .ne 31, 3) := by decide +kernel
theorem dX4_takeTell_11 : decode cX4_takeTell 11 = .ok (.aload_n 1, 1) := by decide +kernel
theorem dX4_takeTell_12 : decode cX4_takeTell 12 = .ok (.getfield 129, 3) := by decide +kernel
theorem dX4_takeTell_15 : decode cX4_takeTell 15 = .ok (.aload_n 0, 1) := by decide +kernel
theorem dX4_takeTell_16 : decode cX4_takeTell 16 = .ok (.getfield 12, 3) := by decide +kernel
