theorem dX7_makeMix_145 : decode cX7_makeMix 145 = .ok (.imul, 1) := by decide +kernel
theorem dX7_makeMix_146 : decode cX7_makeMix 146 = .ok (.iload 4, 2) := by decide +kernel
theorem dX7_makeMix_148 : decode cX7_makeMix 148 = .ok (.iadd, 1) := by decide +kernel
theorem dX7_makeMix_149 : decode cX7_makeMix 149 = .ok (.iaload, 1) := by decide +kernel
theorem dX7_makeMix_150 : decode cX7_makeMix 150 = .ok (.iastore, 1) := by decide +kernel
theorem dX7_makeMix_151 : decode cX7_makeMix 151 = .ok (.aload_n 0, 1) := by decide +kernel
theorem dX7_makeMix_152 : decode cX7_makeMix 152 = .ok (.getfield 107, 3) := by decide +kernel
theorem dX7_makeMix_155 : decode cX7_makeMix 155 = .ok (.iload_n 1, 1) := by decide +kernel
theorem dX7_makeMix_156 : decode cX7_makeMix 156 = .ok (.aload_n 0, 1) := by decide +kernel
theorem dX7_makeMix_157 : decode cX7_makeMix 157 = .ok (.getfield 44, 3) := by decide +kernel
theorem dX7_makeMix_160 : decode cX7_makeMix 160 = .ok (.bipush 12, 2) := by decide +kernel
theorem dX7_makeMix_162 : decode cX7_makeMix 162 = .ok (.iload_n 1, 1) := by decide +kernel
theorem dX7_makeMix_163 : decode cX7_makeMix 163 = .ok (.imul, 1) := by decide +kernel
theorem dX7_makeMix_164 : decode cX7_makeMix 164 = .ok (.iload 4, 2) := by decide +kernel
theorem dX7_makeMix_166 : decode cX7_makeMix 166 = .ok (.iadd, 1) := by decide +kernel
theorem dX7_makeMix_167 : decode cX7_makeMix 167 = .ok (.iaload, 1) := by decide +kernel
theorem dX7_makeMix_168 : decode cX7_makeMix 168 = .ok (.iastore, 1) := by decide +kernel
theorem dX7_makeMix_169 : decode cX7_makeMix 169 = .ok (.return_, 1) := by decide +kernel
set_option maxRecDepth 20000 in
theorem ggX7_send_X7_rank : GoodIn wsX7_send wsX7_rank := goodIn_r _ [25, 26, 40, 41, 42, 43, 44, 45, 46, 47, 48, 49, 50, 51, 52, 53, 54, 55, 56, 57, 58, 59, 60, 61, 62, 63, 64, 65, 66, 67, 68, 69, 70, 71, 72, 73, 74, 75, 76, 77, 78, 79, 80] (by decide +kernel) (by decide +kernel)
set_option maxRecDepth 20000 in
theorem gX7_send_X7_rank : GoodIn wsX7_send (wsV RX7 145 RX7 yX7_rank wsX7_rank) := goodIn_app (goodIn_of _ (by decide +kernel)) ggX7_send_X7_rank
set_option maxRecDepth 20000 in
theorem ggX7_send_X7_makeMix : GoodIn wsX7_send wsX7_makeMix := goodIn_r _ [30, 31, 32, 26, 33, 34, 35, 36, 24, 37, 38, 39, 40, 41, 42, 43, 44, 45, 46, 47, 48, 49, 50, 51, 52, 53, 54, 55, 56, 57, 58, 59, 60, 61, 62, 63, 64, 65, 66, 67, 68, 69, 70, 71, 72, 73, 74, 75, 76, 77, 78, 79, 80] (by decide +kernel) (by decide +kernel)
set_option maxRecDepth 20000 in
theorem gX7_send_X7_makeMix : GoodIn wsX7_send (wsV RX7 169 RX7 yX7_makeMix wsX7_makeMix) := goodIn_app (goodIn_of _ (by decide +kernel)) ggX7_send_X7_makeMix
theorem dX7_send_0 : decode cX7_send 0 = .ok (.aload_n 0, 1) := by decide +kernel
theorem dX7_send_1 : decode cX7_send 1 = .ok (.getfield 89, 3) := by decide +kernel
theorem dX7_send_4 : decode cX7_send 4 = .ok (.iload_n 1, 1) := by decide +kernel
theorem dX7_send_5 : decode cX7_send 5 = .ok (.iconst 0, 1) := by decide +kernel
theorem dX7_send_6 : decode cX7_send 6 = .ok (.iastore, 1) := by decide +kernel
theorem dX7_send_7 : decode cX7_send 7 = .ok (.aload_n 0, 1) := by decide +kernel
theorem dX7_send_8 : decode cX7_send 8 = .ok (.getfield 92, 3) := by decide +kernel
theorem dX7_send_11 : decode cX7_send 11 = .ok (.iload_n 1, 1) := by decide +kernel
theorem dX7_send_12 : decode cX7_send 12 = .ok (.aload_n 0, 1) := by decide +kernel
theorem dX7_send_13 : decode cX7_send 13 = .ok (.getfield 32, 3) := by decide +kernel
theorem dX7_send_16 : decode cX7_send 16 = .ok (.iload_n 1, 1) := by decide +kernel
theorem dX7_send_17 : decode cX7_send 17 = .ok (.iaload, 1) := by decide +kernel
theorem dX7_send_18 : decode cX7_send 18 = .ok (.iastore, 1) := by decide +kernel
theorem dX7_send_19 : decode cX7_send 19 = .ok (.aload_n 0, 1) := by decide +kernel
theorem dX7_send_20 : decode cX7_send 20 = .ok (.getfield 95, 3) := by decide +kernel
theorem dX7_send_23 : decode cX7_send 23 = .ok (.iload_n 1, 1) := by decide +kernel
theorem dX7_send_24 : decode cX7_send 24 = .ok (.aload_n 0, 1) := by decide +kernel
theorem dX7_send_25 : decode cX7_send 25 = .ok (.getfield 35, 3) := by decide +kernel
theorem dX7_send_28 : decode cX7_send 28 = .ok (.iload_n 1, 1) := by decide +kernel
theorem dX7_send_29 : decode cX7_send 29 = .ok (.iaload, 1) := by decide +kernel
theorem dX7_send_30 : decode cX7_send 30 = .ok (.iastore, 1) := by decide +kernel
theorem dX7_send_31 : decode cX7_send 31 = .ok (.aload_n 0, 1) := by decide +kernel
theorem dX7_send_32 : decode cX7_send 32 = .ok (.getfield 98, 3) := by decide +kernel
theorem dX7_send_35 : decode cX7_send 35 = .ok (.iload_n 1, 1) := by decide +kernel
theorem dX7_send_36 : decode cX7_send 36 = .ok (.aload_n 0, 1) := by decide +kernel
theorem dX7_send_37 : decode cX7_send 37 = .ok (.getfield 38, 3) := by decide +kernel
theorem dX7_send_40 : decode cX7_send 40 = .ok (.iload_n 1, 1) := by decide +kernel
theorem dX7_send_41 : decode cX7_send 41 = .ok (.iaload, 1) := by decide +kernel
theorem dX7_send_42 : decode cX7_send 42 = .ok (.iastore, 1) := by decide +kernel
theorem dX7_send_43 : decode cX7_send 43 = .ok (.aload_n 0, 1) := by decide +kernel
theorem dX7_send_44 : decode cX7_send 44 = .ok (.getfield 101, 3) := by decide +kernel
theorem dX7_send_47 : decode cX7_send 47 = .ok (.iload_n 1, 1) := by decide +kernel
theorem dX7_send_48 : decode cX7_send 48 = .ok (.aload_n 0, 1) := by decide +kernel
theorem dX7_send_49 : decode cX7_send 49 = .ok (.iload_n 1, 1) := by decide +kernel
theorem dX7_send_50 : decode cX7_send 50 = .ok (.invokevirtual 145, 3) := by decide +kernel
theorem dX7_send_53 : decode cX7_send 53 = .ok (.iastore, 1) := by decide +kernel
theorem dX7_send_54 : decode cX7_send 54 = .ok (.aload_n 0, 1) := by decide +kernel
theorem dX7_send_55 : decode cX7_send 55 = .ok (.getfield 110, 3) := by decide +kernel
theorem dX7_send_58 : decode cX7_send 58 = .ok (.iload_n 1, 1) := by decide +kernel
theorem dX7_send_59 : decode cX7_send 59 = .ok (.aload_n 0, 1) := by decide +kernel
theorem dX7_send_60 : decode cX7_send 60 = .ok (.getfield 80, 3) := by decide +kernel
theorem dX7_send_63 : decode cX7_send 63 = .ok (.iload_n 1, 1) := by decide +kernel
theorem dX7_send_64 : decode cX7_send 64 = .ok (.iaload, 1) := by decide +kernel
theorem dX7_send_65 : decode cX7_send 65 = .ok (.iastore, 1) := by decide +kernel
theorem dX7_send_66 : decode cX7_send 66 = .ok (.aload_n 0, 1) := by decide +kernel
theorem dX7_send_67 : decode cX7_send 67 = .ok (.getfield 113, 3) := by decide +kernel
theorem dX7_send_70 : decode cX7_send 70 = .ok (.iload_n 1, 1) := by decide +kernel
theorem dX7_send_71 : decode cX7_send 71 = .ok (.aload_n 0, 1) := by decide +kernel
theorem dX7_send_72 : decode cX7_send 72 = .ok (.getfield 83, 3) := by decide +kernel
theorem dX7_send_75 : decode cX7_send 75 = .ok (.iload_n 1, 1) := by decide +kernel
theorem dX7_send_76 : decode cX7_send 76 = .ok (.iaload, 1) := by decide +kernel
theorem dX7_send_77 : decode cX7_send 77 = .ok (.iastore, 1) := by decide +kernel
theorem dX7_send_78 : decode cX7_send 78 = .ok (.aload_n 0, 1) := by decide +kernel
theorem dX7_send_79 : decode cX7_send 79 = .ok (.getfield 62, 3) := by decide +kernel
theorem dX7_send_82 : decode cX7_send 82 = .ok (.iload_n 1, 1) := by decide +kernel
theorem dX7_send_83 : decode cX7_send 83 = .ok (.iaload, 1) := by decide +kernel
theorem dX7_send_84 : decode cX7_send 84 = .ok (.aload_n 0, 1) := by decide +kernel
theorem dX7_send_85 : decode cX7_send 85 = .ok (.getfield 131, 3) := by decide +kernel
theorem dX7_send_88 : decode cX7_send 88 = .ok (.if_icmp .ne 7, 3) := by decide +kernel
theorem dX7_send_91 : decode cX7_send 91 = .ok (.iconst 1, 1) := by decide +kernel
theorem dX7_send_92 : decode cX7_send 92 = .ok (.goto 4, 3) := by decide +kernel
theorem dX7_send_95 : decode cX7_send 95 = .ok (.iconst 0, 1) := by decide +kernel
theorem dX7_send_96 : decode cX7_send 96 = .ok (.istore_n 2, 1) := by decide +kernel
theorem dX7_send_97 : decode cX7_send 97 = .ok (.iload_n 2, 1) := by decide +kernel
theorem dX7_send_98 : decode cX7_send 98 = .ok (.ifCond .eq 10, 3) := by decide +kernel
theorem dX7_send_101 : decode cX7_send 101 = .ok (.aload_n 0, 1) := by decide +kernel
theorem dX7_send_102 : decode cX7_send 102 = .ok (.getfield 62, 3) := by decide +kernel
theorem dX7_send_105 : decode cX7_send 105 = .ok (.iload_n 1, 1) := by decide +kernel
theorem dX7_send_106 : decode cX7_send 106 = .ok (.iconst (-1), 1) := by decide +kernel
theorem dX7_send_107 : decode cX7_send 107 = .ok (.iastore, 1) := by decide +kernel
theorem dX7_send_108 : decode cX7_send 108 = .ok (.iload_n 2, 1) := by decide +kernel
theorem dX7_send_109 : decode cX7_send 109 = .ok (.ifCond .eq 47, 3) := by decide +kernel
theorem dX7_send_112 : decode cX7_send 112 = .ok (.aload_n 0, 1) := by decide +kernel
theorem dX7_send_113 : decode cX7_send 113 = .ok (.getfield 101, 3) := by decide +kernel
theorem dX7_send_116 : decode cX7_send 116 = .ok (.iload_n 1, 1) := by decide +kernel
theorem dX7_send_117 : decode cX7_send 117 = .ok (.iaload, 1) := by decide +kernel
theorem dX7_send_118 : decode cX7_send 118 = .ok (.ifCond .le 38, 3) := by decide +kernel
theorem dX7_send_121 : decode cX7_send 121 = .ok (.aload_n 0, 1) := by decide +kernel
theorem dX7_send_122 : decode cX7_send 122 = .ok (.getfield 89, 3) := by decide +kernel
theorem dX7_send_125 : decode cX7_send 125 = .ok (.iload_n 1, 1) := by decide +kernel
theorem dX7_send_126 : decode cX7_send 126 = .ok (.iconst 2, 1) := by decide +kernel
theorem dX7_send_127 : decode cX7_send 127 = .ok (.iastore, 1) := by decide +kernel
theorem dX7_send_128 : decode cX7_send 128 = .ok (.aload_n 0, 1) := by decide +kernel
theorem dX7_send_129 : decode cX7_send 129 = .ok (.getfield 68, 3) := by decide +kernel
theorem dX7_send_132 : decode cX7_send 132 = .ok (.iload_n 1, 1) := by decide +kernel
theorem dX7_send_133 : decode cX7_send 133 = .ok (.dup2, 1) := by decide +kernel
theorem dX7_send_134 : decode cX7_send 134 = .ok (.iaload, 1) := by decide +kernel
theorem dX7_send_135 : decode cX7_send 135 = .ok (.iconst 1, 1) := by decide +kernel
theorem dX7_send_136 : decode cX7_send 136 = .ok (.iadd, 1) := by decide +kernel
theorem dX7_send_137 : decode cX7_send 137 = .ok (.iastore, 1) := by decide +kernel
theorem dX7_send_138 : decode cX7_send 138 = .ok (.aload_n 0, 1) := by decide +kernel
theorem dX7_send_139 : decode cX7_send 139 = .ok (.dup, 1) := by decide +kernel
theorem dX7_send_140 : decode cX7_send 140 = .ok (.getfield 166, 3) := by decide +kernel
theorem dX7_send_143 : decode cX7_send 143 = .ok (.iconst 1, 1) := by decide +kernel
theorem dX7_send_144 : decode cX7_send 144 = .ok (.iadd, 1) := by decide +kernel
theorem dX7_send_145 : decode cX7_send 145 = .ok (.putfield 166, 3) := by decide +kernel
theorem dX7_send_148 : decode cX7_send 148 = .ok (.aload_n 0, 1) := by decide +kernel
theorem dX7_send_149 : decode cX7_send 149 = .ok (.iload_n 1, 1) := by decide +kernel
theorem dX7_send_150 : decode cX7_send 150 = .ok (.invokevirtual 169, 3) := by decide +kernel
theorem dX7_send_153 : decode cX7_send 153 = .ok (.goto 56, 3) := by decide +kernel
theorem dX7_send_156 : decode cX7_send 156 = .ok (.aload_n 0, 1) := by decide +kernel
theorem dX7_send_157 : decode cX7_send 157 = .ok (.getfield 56, 3) := by decide +kernel
theorem dX7_send_160 : decode cX7_send 160 = .ok (.iload_n 1, 1) := by decide +kernel
theorem dX7_send_161 : decode cX7_send 161 = .ok (.iaload, 1) := by decide +kernel
theorem dX7_send_162 : decode cX7_send 162 = .ok (.aload_n 0, 1) := by decide +kernel
theorem dX7_send_163 : decode cX7_send 163 = .ok (.getfield 131, 3) := by decide +kernel
theorem dX7_send_166 : decode cX7_send 166 = .ok (.if_icmp .ne 43, 3) := by decide +kernel
theorem dX7_send_169 : decode cX7_send 169 = .ok (.aload_n 0, 1) := by decide +kernel
theorem dX7_send_170 : decode cX7_send 170 = .ok (.getfield 59, 3) := by decide +kernel
theorem dX7_send_173 : decode cX7_send 173 = .ok (.iload_n 1, 1) := by decide +kernel
theorem dX7_send_174 : decode cX7_send 174 = .ok (.iaload, 1) := by decide +kernel
theorem dX7_send_175 : decode cX7_send 175 = .ok (.aload_n 0, 1) := by decide +kernel
theorem dX7_send_176 : decode cX7_send 176 = .ok (.getfield 13, 3) := by decide +kernel
theorem dX7_send_179 : decode cX7_send 179 = .ok (.if_icmp .ge 30, 3) := by decide +kernel
theorem dX7_send_182 : decode cX7_send 182 = .ok (.aload_n 0, 1) := by decide +kernel
theorem dX7_send_183 : decode cX7_send 183 = .ok (.getfield 89, 3) := by decide +kernel
theorem dX7_send_186 : decode cX7_send 186 = .ok (.iload_n 1, 1) := by decide +kernel
theorem dX7_send_187 : decode cX7_send 187 = .ok (.iconst 1, 1) := by decide +kernel
theorem dX7_send_188 : decode cX7_send 188 = .ok (.iastore, 1) := by decide +kernel
theorem dX7_send_189 : decode cX7_send 189 = .ok (.aload_n 0, 1) := by decide +kernel
theorem dX7_send_190 : decode cX7_send 190 = .ok (.getfield 65, 3) := by decide +kernel
theorem dX7_send_193 : decode cX7_send 193 = .ok (.iload_n 1, 1) := by decide +kernel
theorem dX7_send_194 : decode cX7_send 194 = .ok (.dup2, 1) := by decide +kernel
theorem dX7_send_195 : decode cX7_send 195 = .ok (.iaload, 1) := by decide +kernel
theorem dX7_send_196 : decode cX7_send 196 = .ok (.iconst 1, 1) := by decide +kernel
theorem dX7_send_197 : decode cX7_send 197 = .ok (.iadd, 1) := by decide +kernel
theorem dX7_send_198 : decode cX7_send 198 = .ok (.iastore, 1) := by decide +kernel
theorem dX7_send_199 : decode cX7_send 199 = .ok (.aload_n 0, 1) := by decide +kernel
theorem dX7_send_200 : decode cX7_send 200 = .ok (.dup, 1) := by decide +kernel
theorem dX7_send_201 : decode cX7_send 201 = .ok (.getfield 166, 3) := by decide +kernel
theorem dX7_send_204 : decode cX7_send 204 = .ok (.iconst 1, 1) := by decide +kernel
theorem dX7_send_205 : decode cX7_send 205 = .ok (.iadd, 1) := by decide +kernel
theorem dX7_send_206 : decode cX7_send 206 = .ok (.putfield 166, 3) := by decide +kernel
theorem dX7_send_209 : decode cX7_send 209 = .ok (.return_, 1) := by decide +kernel
set_option maxRecDepth 20000 in
theorem ggX7_listen_X7_draw : GoodIn wsX7_listen wsX7_draw := goodIn_r _ [11, 12, 13, 14, 15, 16, 17, 18, 19, 20, 21, 22, 23, 24, 25, 26, 27, 28, 29, 30, 31, 32, 33, 34, 35, 36, 37, 38, 39, 40, 41, 42, 43, 44, 45, 46, 47, 48, 49, 50, 51, 52, 53, 54] (by decide +kernel) (by decide +kernel)
set_option maxRecDepth 20000 in
theorem gX7_listen_X7_draw : GoodIn wsX7_listen (wsV RX7 127 RX7 yX7_draw wsX7_draw) := goodIn_app (goodIn_of _ (by decide +kernel)) ggX7_listen_X7_draw
theorem dX7_listen_0 : decode cX7_listen 0 = .ok (.iconst (-1), 1) := by decide +kernel
theorem dX7_listen_1 : decode cX7_listen 1 = .ok (.istore_n 2, 1) := by decide +kernel
theorem dX7_listen_2 : decode cX7_listen 2 = .ok (.iconst 0, 1) := by decide +kernel
theorem dX7_listen_3 : decode cX7_listen 3 = .ok (.istore_n 3, 1) := by decide +kernel
theorem dX7_listen_4 : decode cX7_listen 4 = .ok (.iconst 0, 1) := by decide +kernel
theorem dX7_listen_5 : decode cX7_listen 5 = .ok (.istore 4, 2) := by decide +kernel
theorem dX7_listen_7 : decode cX7_listen 7 = .ok (.iload 4, 2) := by decide +kernel
theorem dX7_listen_9 : decode cX7_listen 9 = .ok (.aload_n 0, 1) := by decide +kernel
theorem dX7_listen_10 : decode cX7_listen 10 = .ok (.getfield 119, 3) := by decide +kernel
theorem dX7_listen_13 : decode cX7_listen 13 = .ok (.if_icmp .ge 43, 3) := by decide +kernel
theorem dX7_listen_16 : decode cX7_listen 16 = .ok (.aload_n 0, 1) := by decide +kernel
theorem dX7_listen_17 : decode cX7_listen 17 = .ok (.getfield 89, 3) := by decide +kernel
theorem dX7_listen_20 : decode cX7_listen 20 = .ok (.iload 4, 2) := by decide +kernel
theorem dX7_listen_22 : decode cX7_listen 22 = .ok (.iaload, 1) := by decide +kernel
theorem dX7_listen_23 : decode cX7_listen 23 = .ok (.ifCond .eq 27, 3) := by decide +kernel
theorem dX7_listen_26 : decode cX7_listen 26 = .ok (.aload_n 0, 1) := by decide +kernel
theorem dX7_listen_27 : decode cX7_listen 27 = .ok (.getfield 29, 3) := by decide +kernel
theorem dX7_listen_30 : decode cX7_listen 30 = .ok (.bipush 12, 2) := by decide +kernel
theorem dX7_listen_32 : decode cX7_listen 32 = .ok (.iload_n 1, 1) := by decide +kernel
theorem dX7_listen_33 : decode cX7_listen 33 = .ok (.imul, 1) := by decide +kernel
theorem dX7_listen_34 : decode cX7_listen 34 = .ok (.iload 4, 2) := by decide +kernel
theorem dX7_listen_36 : decode cX7_listen 36 = .ok (.iadd, 1) := by decide +kernel
theorem dX7_listen_37 : decode cX7_listen 37 = .ok (.iaload, 1) := by decide +kernel
theorem dX7_listen_38 : decode cX7_listen 38 = .ok (.ifCond .ge 6, 3) := by decide +kernel
theorem dX7_listen_41 : decode cX7_listen 41 = .ok (.goto 9, 3) := by decide +kernel
theorem dX7_listen_44 : decode cX7_listen 44 = .ok (.iload 4, 2) := by decide +kernel
theorem dX7_listen_46 : decode cX7_listen 46 = .ok (.istore_n 2, 1) := by decide +kernel
theorem dX7_listen_47 : decode cX7_listen 47 = .ok (.iinc 3 1, 3) := by decide +kernel
theorem dX7_listen_50 : decode cX7_listen 50 = .ok (.iinc 4 1, 3) := by decide +kernel
theorem dX7_listen_53 : decode cX7_listen 53 = .ok (.goto (-46), 3) := by decide +kernel
theorem dX7_listen_56 : decode cX7_listen 56 = .ok (.aload_n 0, 1) := by decide +kernel
theorem dX7_listen_57 : decode cX7_listen 57 = .ok (.getfield 116, 3) := by decide +kernel
theorem dX7_listen_60 : decode cX7_listen 60 = .ok (.iload_n 1, 1) := by decide +kernel
theorem dX7_listen_61 : decode cX7_listen 61 = .ok (.iconst (-1), 1) := by decide +kernel
theorem dX7_listen_62 : decode cX7_listen 62 = .ok (.iastore, 1) := by decide +kernel
theorem dX7_listen_63 : decode cX7_listen 63 = .ok (.aload_n 0, 1) := by decide +kernel
theorem dX7_listen_64 : decode cX7_listen 64 = .ok (.getfield 89, 3) := by decide +kernel
theorem dX7_listen_67 : decode cX7_listen 67 = .ok (.iload_n 1, 1) := by decide +kernel
theorem dX7_listen_68 : decode cX7_listen 68 = .ok (.iaload, 1) := by decide +kernel
theorem dX7_listen_69 : decode cX7_listen 69 = .ok (.ifCond .ne 7, 3) := by decide +kernel
theorem dX7_listen_72 : decode cX7_listen 72 = .ok (.iload_n 3, 1) := by decide +kernel
theorem dX7_listen_73 : decode cX7_listen 73 = .ok (.ifCond .ne 4, 3) := by decide +kernel
theorem dX7_listen_76 : decode cX7_listen 76 = .ok (.return_, 1) := by decide +kernel
theorem dX7_listen_77 : decode cX7_listen 77 = .ok (.iload_n 3, 1) := by decide +kernel
theorem dX7_listen_78 : decode cX7_listen 78 = .ok (.iconst 1, 1) := by decide +kernel
theorem dX7_listen_79 : decode cX7_listen 79 = .ok (.if_icmp .le 16, 3) := by decide +kernel
theorem dX7_listen_82 : decode cX7_listen 82 = .ok (.aload_n 0, 1) := by decide +kernel
theorem dX7_listen_83 : decode cX7_listen 83 = .ok (.getfield 71, 3) := by decide +kernel
theorem dX7_listen_86 : decode cX7_listen 86 = .ok (.iload_n 1, 1) := by decide +kernel
theorem dX7_listen_87 : decode cX7_listen 87 = .ok (.dup2, 1) := by decide +kernel
theorem dX7_listen_88 : decode cX7_listen 88 = .ok (.iaload, 1) := by decide +kernel
theorem dX7_listen_89 : decode cX7_listen 89 = .ok (.iconst 1, 1) := by decide +kernel
theorem dX7_listen_90 : decode cX7_listen 90 = .ok (.iadd, 1) := by decide +kernel
theorem dX7_listen_91 : decode cX7_listen 91 = .ok (.iastore, 1) := by decide +kernel
theorem dX7_listen_92 : decode cX7_listen 92 = .ok (.goto 43, 3) := by decide +kernel
theorem dX7_listen_95 : decode cX7_listen 95 = .ok (.aload_n 0, 1) := by decide +kernel
theorem dX7_listen_96 : decode cX7_listen 96 = .ok (.bipush 100, 2) := by decide +kernel
theorem dX7_listen_98 : decode cX7_listen 98 = .ok (.invokevirtual 127, 3) := by decide +kernel
theorem dX7_listen_101 : decode cX7_listen 101 = .ok (.aload_n 0, 1) := by decide +kernel
theorem dX7_listen_102 : decode cX7_listen 102 = .ok (.getfield 29, 3) := by decide +kernel
theorem dX7_listen_105 : decode cX7_listen 105 = .ok (.bipush 12, 2) := by decide +kernel
theorem dX7_listen_107 : decode cX7_listen 107 = .ok (.iload_n 1, 1) := by decide +kernel
theorem dX7_listen_108 : decode cX7_listen 108 = .ok (.imul, 1) := by decide +kernel
theorem dX7_listen_109 : decode cX7_listen 109 = .ok (.iload_n 2, 1) := by decide +kernel
theorem dX7_listen_110 : decode cX7_listen 110 = .ok (.iadd, 1) := by decide +kernel
theorem dX7_listen_111 : decode cX7_listen 111 = .ok (.iaload, 1) := by decide +kernel
theorem dX7_listen_112 : decode cX7_listen 112 = .ok (.if_icmp .ge 16, 3) := by decide +kernel
theorem dX7_listen_115 : decode cX7_listen 115 = .ok (.aload_n 0, 1) := by decide +kernel
theorem dX7_listen_116 : decode cX7_listen 116 = .ok (.getfield 74, 3) := by decide +kernel
theorem dX7_listen_119 : decode cX7_listen 119 = .ok (.iload_n 1, 1) := by decide +kernel
theorem dX7_listen_120 : decode cX7_listen 120 = .ok (.dup2, 1) := by decide +kernel
theorem dX7_listen_121 : decode cX7_listen 121 = .ok (.iaload, 1) := by decide +kernel
theorem dX7_listen_122 : decode cX7_listen 122 = .ok (.iconst 1, 1) := by decide +kernel
theorem dX7_listen_123 : decode cX7_listen 123 = .ok (.iadd, 1) := by decide +kernel
theorem dX7_listen_124 : decode cX7_listen 124 = .ok (.iastore, 1) := by decide +kernel
theorem dX7_listen_125 : decode cX7_listen 125 = .ok (.goto 10, 3) := by decide +kernel
theorem dX7_listen_128 : decode cX7_listen 128 = .ok (.aload_n 0, 1) := by decide +kernel
theorem dX7_listen_129 : decode cX7_listen 129 = .ok (.getfield 116, 3) := by decide +kernel
theorem dX7_listen_132 : decode cX7_listen 132 = .ok (.iload_n 1, 1) := by decide +kernel
theorem dX7_listen_133 : decode cX7_listen 133 = .ok (.iload_n 2, 1) := by decide +kernel
theorem dX7_listen_134 : decode cX7_listen 134 = .ok (.iastore, 1) := by decide +kernel
theorem dX7_listen_135 : decode cX7_listen 135 = .ok (.return_, 1) := by decide +kernel
set_option maxRecDepth 20000 in
theorem ggX7_work_X7_tell : GoodIn wsX7_work wsX7_tell := goodIn_r _ [13, 14, 15, 16, 17, 18, 19, 20, 21, 12, 22, 23, 24, 25, 26, 27, 28, 29, 30, 31, 32, 33, 34, 35, 36, 37, 38, 39, 40, 41, 70, 71, 72, 73, 74, 75, 76, 77, 78, 79, 80, 81, 82, 83, 84, 85, 86, 87, 88, 89, 90, 91, 92, 93, 94, 95, 96, 97, 98, 99, 100, 101, 102, 103, 104, 105, 106, 107, 108, 109, 110] (by decide +kernel) (by decide +kernel)
set_option maxRecDepth 20000 in
theorem gX7_work_X7_tell : GoodIn wsX7_work (wsV RX7 172 RX7 yX7_tell wsX7_tell) := goodIn_app (goodIn_of _ (by decide +kernel)) ggX7_work_X7_tell
set_option maxRecDepth 20000 in
theorem ggX7_work_X7_mix : GoodIn wsX7_work wsX7_mix := goodIn_r _ [45, 3, 14, 46, 47, 48, 49, 50, 51, 52, 53, 54, 12, 55, 23, 56, 57, 58, 59, 60, 16, 61, 62, 63, 64, 65, 19, 20, 21, 22, 66, 67, 68, 69, 24, 25, 26, 27, 28, 29, 17, 30, 31, 32, 33, 34, 15, 35, 36, 37, 38, 39, 40, 41, 70, 71, 72, 73, 74, 75, 76, 77, 78, 79, 80, 81, 82, 83, 84, 85, 86, 87, 88, 89, 90, 91, 92, 93, 94, 95, 96, 97, 98, 99, 100, 101, 102, 103, 104, 105, 106, 107, 108, 109, 110] (by decide +kernel) (by decide +kernel)
set_option maxRecDepth 20000 in
theorem gX7_work_X7_mix : GoodIn wsX7_work (wsV RX7 175 RX7 yX7_mix wsX7_mix) := goodIn_app (goodIn_of _ (by decide +kernel)) ggX7_work_X7_mix
theorem dX7_work_0 : decode cX7_work 0 = .ok (.aload_n 0, 1) := by decide +kernel
theorem dX7_work_1 : decode cX7_work 1 = .ok (.getfield 116, 3) := by decide +kernel
theorem dX7_work_4 : decode cX7_work 4 = .ok (.iload_n 1, 1) := by decide +kernel
theorem dX7_work_5 : decode cX7_work 5 = .ok (.iaload, 1) := by decide +kernel
theorem dX7_work_6 : decode cX7_work 6 = .ok (.istore_n 2, 1) := by decide +kernel
theorem dX7_work_7 : decode cX7_work 7 = .ok (.iload_n 2, 1) := by decide +kernel
theorem dX7_work_8 : decode cX7_work 8 = .ok (.ifCond .ge 4, 3) := by decide +kernel
theorem dX7_work_11 : decode cX7_work 11 = .ok (.return_, 1) := by decide +kernel
theorem dX7_work_12 : decode cX7_work 12 = .ok (.aload_n 0, 1) := by decide +kernel
theorem dX7_work_13 : decode cX7_work 13 = .ok (.getfield 89, 3) := by decide +kernel
theorem dX7_work_16 : decode cX7_work 16 = .ok (.iload_n 2, 1) := by decide +kernel
theorem dX7_work_17 : decode cX7_work 17 = .ok (.iaload, 1) := by decide +kernel
theorem dX7_work_18 : decode cX7_work 18 = .ok (.iconst 1, 1) := by decide +kernel
theorem dX7_work_19 : decode cX7_work 19 = .ok (.if_icmp .ne 23, 3) := by decide +kernel
theorem dX7_work_22 : decode cX7_work 22 = .ok (.aload_n 0, 1) := by decide +kernel
theorem dX7_work_23 : decode cX7_work 23 = .ok (.iload_n 1, 1) := by decide +kernel
theorem dX7_work_24 : decode cX7_work 24 = .ok (.aload_n 0, 1) := by decide +kernel
theorem dX7_work_25 : decode cX7_work 25 = .ok (.getfield 92, 3) := by decide +kernel
theorem dX7_work_28 : decode cX7_work 28 = .ok (.iload_n 2, 1) := by decide +kernel
theorem dX7_work_29 : decode cX7_work 29 = .ok (.iaload, 1) := by decide +kernel
theorem dX7_work_30 : decode cX7_work 30 = .ok (.aload_n 0, 1) := by decide +kernel
theorem dX7_work_31 : decode cX7_work 31 = .ok (.getfield 101, 3) := by decide +kernel
theorem dX7_work_34 : decode cX7_work 34 = .ok (.iload_n 2, 1) := by decide +kernel
theorem dX7_work_35 : decode cX7_work 35 = .ok (.iaload, 1) := by decide +kernel
theorem dX7_work_36 : decode cX7_work 36 = .ok (.invokevirtual 172, 3) := by decide +kernel
theorem dX7_work_39 : decode cX7_work 39 = .ok (.goto 9, 3) := by decide +kernel
theorem dX7_work_42 : decode cX7_work 42 = .ok (.aload_n 0, 1) := by decide +kernel
theorem dX7_work_43 : decode cX7_work 43 = .ok (.iload_n 1, 1) := by decide +kernel
theorem dX7_work_44 : decode cX7_work 44 = .ok (.iload_n 2, 1) := by decide +kernel
theorem dX7_work_45 : decode cX7_work 45 = .ok (.invokevirtual 175, 3) := by decide +kernel
theorem dX7_work_48 : decode cX7_work 48 = .ok (.aload_n 0, 1) := by decide +kernel
theorem dX7_work_49 : decode cX7_work 49 = .ok (.getfield 110, 3) := by decide +kernel
theorem dX7_work_52 : decode cX7_work 52 = .ok (.iload_n 2, 1) := by decide +kernel
theorem dX7_work_53 : decode cX7_work 53 = .ok (.iaload, 1) := by decide +kernel
theorem dX7_work_54 : decode cX7_work 54 = .ok (.aload_n 0, 1) := by decide +kernel
theorem dX7_work_55 : decode cX7_work 55 = .ok (.getfield 80, 3) := by decide +kernel
theorem dX7_work_58 : decode cX7_work 58 = .ok (.iload_n 1, 1) := by decide +kernel
theorem dX7_work_59 : decode cX7_work 59 = .ok (.iaload, 1) := by decide +kernel
theorem dX7_work_60 : decode cX7_work 60 = .ok (.if_icmp .le 27, 3) := by decide +kernel
theorem dX7_work_63 : decode cX7_work 63 = .ok (.aload_n 0, 1) := by decide +kernel
theorem dX7_work_64 : decode cX7_work 64 = .ok (.getfield 80, 3) := by decide +kernel
theorem dX7_work_67 : decode cX7_work 67 = .ok (.iload_n 1, 1) := by decide +kernel
theorem dX7_work_68 : decode cX7_work 68 = .ok (.aload_n 0, 1) := by decide +kernel
theorem dX7_work_69 : decode cX7_work 69 = .ok (.getfield 110, 3) := by decide +kernel
theorem dX7_work_72 : decode cX7_work 72 = .ok (.iload_n 2, 1) := by decide +kernel
theorem dX7_work_73 : decode cX7_work 73 = .ok (.iaload, 1) := by decide +kernel
theorem dX7_work_74 : decode cX7_work 74 = .ok (.iastore, 1) := by decide +kernel
theorem dX7_work_75 : decode cX7_work 75 = .ok (.aload_n 0, 1) := by decide +kernel
theorem dX7_work_76 : decode cX7_work 76 = .ok (.getfield 83, 3) := by decide +kernel
theorem dX7_work_79 : decode cX7_work 79 = .ok (.iload_n 1, 1) := by decide +kernel
theorem dX7_work_80 : decode cX7_work 80 = .ok (.aload_n 0, 1) := by decide +kernel
theorem dX7_work_81 : decode cX7_work 81 = .ok (.getfield 113, 3) := by decide +kernel
theorem dX7_work_84 : decode cX7_work 84 = .ok (.iload_n 2, 1) := by decide +kernel
theorem dX7_work_85 : decode cX7_work 85 = .ok (.iaload, 1) := by decide +kernel
theorem dX7_work_86 : decode cX7_work 86 = .ok (.iastore, 1) := by decide +kernel
theorem dX7_work_87 : decode cX7_work 87 = .ok (.return_, 1) := by decide +kernel
set_option maxRecDepth 20000 in
theorem ggX7_tell_X7_rank : GoodIn wsX7_tell wsX7_rank := goodIn_r _ [10, 11, 30, 31, 32, 33, 34, 35, 36, 37, 38, 39, 40, 41, 42, 43, 44, 45, 46, 47, 48, 49, 50, 51, 52, 53, 54, 55, 56, 57, 58, 59, 60, 61, 62, 63, 64, 65, 66, 67, 68, 69, 70] (by decide +kernel) (by decide +kernel)
set_option maxRecDepth 20000 in
theorem gX7_tell_X7_rank : GoodIn wsX7_tell (wsV RX7 145 RX7 yX7_rank wsX7_rank) := goodIn_app (goodIn_of _ (by decide +kernel)) ggX7_tell_X7_rank
set_option maxRecDepth 20000 in
theorem ggX7_tell_X7_stir : GoodIn wsX7_tell wsX7_stir := goodIn_r _ [15, 16, 17, 4, 18, 19, 20, 9, 21, 22, 2, 23, 24, 25, 26, 27, 28, 29, 30, 31, 32, 33, 34, 35, 36, 37, 38, 39, 40, 41, 42, 43, 44, 45, 46, 47, 48, 49, 50, 51, 52, 53, 54, 55, 56, 57, 58, 59, 60, 61, 62, 63, 64, 65, 66, 67, 68, 69, 70] (by decide +kernel) (by decide +kernel)
set_option maxRecDepth 20000 in
theorem gX7_tell_X7_stir : GoodIn wsX7_tell (wsV RX7 155 RX7 yX7_stir wsX7_stir) := goodIn_app (goodIn_of _ (by decide +kernel)) ggX7_tell_X7_stir
set_option maxRecDepth 20000 in
theorem ggX7_tell_X7_draw : GoodIn wsX7_tell wsX7_draw := goodIn_r _ [27, 28, 29, 30, 31, 32, 33, 34, 35, 36, 37, 38, 39, 40, 41, 42, 43, 44, 45, 46, 47, 48, 49, 50, 51, 52, 53, 54, 55, 56, 57, 58, 59, 60, 61, 62, 63, 64, 65, 66, 67, 68, 69, 70] (by decide +kernel) (by decide +kernel)
set_option maxRecDepth 20000 in
theorem gX7_tell_X7_draw : GoodIn wsX7_tell (wsV RX7 127 RX7 yX7_draw wsX7_draw) := goodIn_app (goodIn_of _ (by decide +kernel)) ggX7_tell_X7_draw
theorem dX7_tell_0 : decode cX7_tell 0 = .ok (.aload_n 0, 1) := by decide +kernel
theorem dX7_tell_1 : decode cX7_tell 1 = .ok (.iload_n 1, 1) := by decide +kernel
theorem dX7_tell_2 : decode cX7_tell 2 = .ok (.invokevirtual 145, 3) := by decide +kernel
theorem dX7_tell_5 : decode cX7_tell 5 = .ok (.istore 4, 2) := by decide +kernel
theorem dX7_tell_7 : decode cX7_tell 7 = .ok (.iload_n 2, 1) := by decide +kernel
theorem dX7_tell_8 : decode cX7_tell 8 = .ok (.aload_n 0, 1) := by decide +kernel
theorem dX7_tell_9 : decode cX7_tell 9 = .ok (.getfield 32, 3) := by decide +kernel
theorem dX7_tell_12 : decode cX7_tell 12 = .ok (.iload_n 1, 1) := by decide +kernel
theorem dX7_tell_13 : decode cX7_tell 13 = .ok (.iaload, 1) := by decide +kernel
theorem dX7_tell_14 : decode cX7_tell 14 = .ok (.if_icmp .ne 20, 3) := by decide +kernel
theorem dX7_tell_17 : decode cX7_tell 17 = .ok (.iload_n 3, 1) := by decide +kernel
theorem dX7_tell_18 : decode cX7_tell 18 = .ok (.iload 4, 2) := by decide +kernel
theorem dX7_tell_20 : decode cX7_tell 20 = .ok (.if_icmp .ne 14, 3) := by decide +kernel
theorem dX7_tell_23 : decode cX7_tell 23 = .ok (.aload_n 0, 1) := by decide +kernel
theorem dX7_tell_24 : decode cX7_tell 24 = .ok (.getfield 59, 3) := by decide +kernel
theorem dX7_tell_27 : decode cX7_tell 27 = .ok (.iload_n 1, 1) := by decide +kernel
theorem dX7_tell_28 : decode cX7_tell 28 = .ok (.dup2, 1) := by decide +kernel
theorem dX7_tell_29 : decode cX7_tell 29 = .ok (.iaload, 1) := by decide +kernel
theorem dX7_tell_30 : decode cX7_tell 30 = .ok (.iconst 1, 1) := by decide +kernel
theorem dX7_tell_31 : decode cX7_tell 31 = .ok (.iadd, 1) := by decide +kernel
theorem dX7_tell_32 : decode cX7_tell 32 = .ok (.iastore, 1) := by decide +kernel
theorem dX7_tell_33 : decode cX7_tell 33 = .ok (.return_, 1) := by decide +kernel
theorem dX7_tell_34 : decode cX7_tell 34 = .ok (.aload_n 0, 1) := by decide +kernel
theorem dX7_tell_35 : decode cX7_tell 35 = .ok (.iload_n 1, 1) := by decide +kernel
theorem dX7_tell_36 : decode cX7_tell 36 = .ok (.invokevirtual 155, 3) := by decide +kernel
theorem dX7_tell_39 : decode cX7_tell 39 = .ok (.iload_n 2, 1) := by decide +kernel
theorem dX7_tell_40 : decode cX7_tell 40 = .ok (.aload_n 0, 1) := by decide +kernel
theorem dX7_tell_41 : decode cX7_tell 41 = .ok (.getfield 32, 3) := by decide +kernel
theorem dX7_tell_44 : decode cX7_tell 44 = .ok (.iload_n 1, 1) := by decide +kernel
theorem dX7_tell_45 : decode cX7_tell 45 = .ok (.iaload, 1) := by decide +kernel
theorem dX7_tell_46 : decode cX7_tell 46 = .ok (.if_icmp .lt 19, 3) := by decide +kernel
theorem dX7_tell_49 : decode cX7_tell 49 = .ok (.iload_n 2, 1) := by decide +kernel
theorem dX7_tell_50 : decode cX7_tell 50 = .ok (.aload_n 0, 1) := by decide +kernel
theorem dX7_tell_51 : decode cX7_tell 51 = .ok (.getfield 32, 3) := by decide +kernel
theorem dX7_tell_54 : decode cX7_tell 54 = .ok (.iload_n 1, 1) := by decide +kernel
theorem dX7_tell_55 : decode cX7_tell 55 = .ok (.iaload, 1) := by decide +kernel
theorem dX7_tell_56 : decode cX7_tell 56 = .ok (.if_icmp .ne 13, 3) := by decide +kernel
theorem dX7_tell_59 : decode cX7_tell 59 = .ok (.iload_n 3, 1) := by decide +kernel
theorem dX7_tell_60 : decode cX7_tell 60 = .ok (.iload 4, 2) := by decide +kernel
theorem dX7_tell_62 : decode cX7_tell 62 = .ok (.if_icmp .ge 7, 3) := by decide +kernel
theorem dX7_tell_65 : decode cX7_tell 65 = .ok (.iconst 1, 1) := by decide +kernel
theorem dX7_tell_66 : decode cX7_tell 66 = .ok (.goto 4, 3) := by decide +kernel
theorem dX7_tell_69 : decode cX7_tell 69 = .ok (.iconst 0, 1) := by decide +kernel
theorem dX7_tell_70 : decode cX7_tell 70 = .ok (.istore 5, 2) := by decide +kernel
theorem dX7_tell_72 : decode cX7_tell 72 = .ok (.iload 5, 2) := by decide +kernel
theorem dX7_tell_74 : decode cX7_tell 74 = .ok (.ifCond .eq 33, 3) := by decide +kernel
theorem dX7_tell_77 : decode cX7_tell 77 = .ok (.aload_n 0, 1) := by decide +kernel
theorem dX7_tell_78 : decode cX7_tell 78 = .ok (.getfield 62, 3) := by decide +kernel
theorem dX7_tell_81 : decode cX7_tell 81 = .ok (.iload_n 1, 1) := by decide +kernel
theorem dX7_tell_82 : decode cX7_tell 82 = .ok (.iaload, 1) := by decide +kernel
theorem dX7_tell_83 : decode cX7_tell 83 = .ok (.ifCond .ge 24, 3) := by decide +kernel
theorem dX7_tell_86 : decode cX7_tell 86 = .ok (.aload_n 0, 1) := by decide +kernel
theorem dX7_tell_87 : decode cX7_tell 87 = .ok (.getfield 62, 3) := by decide +kernel
theorem dX7_tell_90 : decode cX7_tell 90 = .ok (.iload_n 1, 1) := by decide +kernel
theorem dX7_tell_91 : decode cX7_tell 91 = .ok (.aload_n 0, 1) := by decide +kernel
theorem dX7_tell_92 : decode cX7_tell 92 = .ok (.getfield 131, 3) := by decide +kernel
theorem dX7_tell_95 : decode cX7_tell 95 = .ok (.iconst 1, 1) := by decide +kernel
theorem dX7_tell_96 : decode cX7_tell 96 = .ok (.iadd, 1) := by decide +kernel
theorem dX7_tell_97 : decode cX7_tell 97 = .ok (.aload_n 0, 1) := by decide +kernel
theorem dX7_tell_98 : decode cX7_tell 98 = .ok (.aload_n 0, 1) := by decide +kernel
theorem dX7_tell_99 : decode cX7_tell 99 = .ok (.getfield 22, 3) := by decide +kernel
theorem dX7_tell_102 : decode cX7_tell 102 = .ok (.invokevirtual 127, 3) := by decide +kernel
theorem dX7_tell_105 : decode cX7_tell 105 = .ok (.iadd, 1) := by decide +kernel
theorem dX7_tell_106 : decode cX7_tell 106 = .ok (.iastore, 1) := by decide +kernel
theorem dX7_tell_107 : decode cX7_tell 107 = .ok (.return_, 1) := by decide +kernel
set_option maxRecDepth 20000 in
theorem ggX7_mix_X7_empty : GoodIn wsX7_mix wsX7_empty := goodIn_r _ [13, 14, 15, 54, 55, 56, 57, 58, 59, 60, 61, 62, 63, 64, 65, 66, 67, 68, 69, 70, 71, 72, 73, 74, 75, 76, 77, 78, 79, 80, 81, 82, 83, 84, 85, 86, 87, 88, 89, 90, 91, 92, 93, 94] (by decide +kernel) (by decide +kernel)
set_option maxRecDepth 20000 in
theorem gX7_mix_X7_empty : GoodIn wsX7_mix (wsV RX7 151 RX7 yX7_empty wsX7_empty) := goodIn_app (goodIn_of _ (by decide +kernel)) ggX7_mix_X7_empty
set_option maxRecDepth 20000 in
theorem ggX7_mix_X7_own : GoodIn wsX7_mix wsX7_own := goodIn_r _ [19, 20, 21, 22, 23, 12, 24, 14, 15, 3, 5, 25, 26, 27, 28, 29, 30, 31, 32, 33, 9, 10, 11, 13, 34, 35, 36, 37, 38, 39, 40, 41, 42, 43, 44, 45, 46, 47, 48, 49, 50, 51, 52, 53, 54, 55, 56, 57, 58, 59, 60, 61, 62, 63, 64, 65, 66, 67, 68, 69, 70, 71, 72, 73, 74, 75, 76, 77, 78, 79, 80, 81, 82, 83, 84, 85, 86, 87, 88, 89, 90, 91, 92, 93, 94] (by decide +kernel) (by decide +kernel)
set_option maxRecDepth 20000 in
theorem gX7_mix_X7_own : GoodIn wsX7_mix (wsV RX7 162 RX7 yX7_own wsX7_own) := goodIn_app (goodIn_of _ (by decide +kernel)) ggX7_mix_X7_own
set_option maxRecDepth 20000 in
theorem ggX7_mix_X7_stir : GoodIn wsX7_mix wsX7_stir := goodIn_r _ [37, 38, 39, 40, 41, 42, 43, 12, 44, 45, 46, 47, 48, 49, 50, 51, 52, 53, 54, 55, 56, 57, 58, 59, 60, 61, 62, 63, 64, 65, 66, 67, 68, 69, 70, 71, 72, 73, 74, 75, 76, 77, 78, 79, 80, 81, 82, 83, 84, 85, 86, 87, 88, 89, 90, 91, 92, 93, 94] (by decide +kernel) (by decide +kernel)
set_option maxRecDepth 20000 in
theorem gX7_mix_X7_stir : GoodIn wsX7_mix (wsV RX7 155 RX7 yX7_stir wsX7_stir) := goodIn_app (goodIn_of _ (by decide +kernel)) ggX7_mix_X7_stir
theorem dX7_mix_0 : decode cX7_mix 0 = .ok (.aload_n 0, 1) := by decide +kernel
theorem dX7_mix_1 : decode cX7_mix 1 = .ok (.getfield 92, 3) := by decide +kernel
theorem dX7_mix_4 : decode cX7_mix 4 = .ok (.iload_n 2, 1) := by decide +kernel
theorem dX7_mix_5 : decode cX7_mix 5 = .ok (.iaload, 1) := by decide +kernel
theorem dX7_mix_6 : decode cX7_mix 6 = .ok (.aload_n 0, 1) := by decide +kernel
theorem dX7_mix_7 : decode cX7_mix 7 = .ok (.getfield 32, 3) := by decide +kernel
theorem dX7_mix_10 : decode cX7_mix 10 = .ok (.iload_n 1, 1) := by decide +kernel
theorem dX7_mix_11 : decode cX7_mix 11 = .ok (.iaload, 1) := by decide +kernel
theorem dX7_mix_12 : decode cX7_mix 12 = .ok (.if_icmp .le 44, 3) := by decide +kernel
theorem dX7_mix_15 : decode cX7_mix 15 = .ok (.aload_n 0, 1) := by decide +kernel
theorem dX7_mix_16 : decode cX7_mix 16 = .ok (.getfield 32, 3) := by decide +kernel
theorem dX7_mix_19 : decode cX7_mix 19 = .ok (.iload_n 1, 1) := by decide +kernel
theorem dX7_mix_20 : decode cX7_mix 20 = .ok (.aload_n 0, 1) := by decide +kernel
theorem dX7_mix_21 : decode cX7_mix 21 = .ok (.getfield 92, 3) := by decide +kernel
theorem dX7_mix_24 : decode cX7_mix 24 = .ok (.iload_n 2, 1) := by decide +kernel
theorem dX7_mix_25 : decode cX7_mix 25 = .ok (.iaload, 1) := by decide +kernel
theorem dX7_mix_26 : decode cX7_mix 26 = .ok (.iastore, 1) := by decide +kernel
theorem dX7_mix_27 : decode cX7_mix 27 = .ok (.aload_n 0, 1) := by decide +kernel
theorem dX7_mix_28 : decode cX7_mix 28 = .ok (.getfield 35, 3) := by decide +kernel
theorem dX7_mix_31 : decode cX7_mix 31 = .ok (.iload_n 1, 1) := by decide +kernel
theorem dX7_mix_32 : decode cX7_mix 32 = .ok (.aload_n 0, 1) := by decide +kernel
theorem dX7_mix_33 : decode cX7_mix 33 = .ok (.getfield 95, 3) := by decide +kernel
theorem dX7_mix_36 : decode cX7_mix 36 = .ok (.iload_n 2, 1) := by decide +kernel
theorem dX7_mix_37 : decode cX7_mix 37 = .ok (.iaload, 1) := by decide +kernel
theorem dX7_mix_38 : decode cX7_mix 38 = .ok (.iastore, 1) := by decide +kernel
theorem dX7_mix_39 : decode cX7_mix 39 = .ok (.aload_n 0, 1) := by decide +kernel
theorem dX7_mix_40 : decode cX7_mix 40 = .ok (.getfield 38, 3) := by decide +kernel
theorem dX7_mix_43 : decode cX7_mix 43 = .ok (.iload_n 1, 1) := by decide +kernel
theorem dX7_mix_44 : decode cX7_mix 44 = .ok (.aload_n 0, 1) := by decide +kernel
theorem dX7_mix_45 : decode cX7_mix 45 = .ok (.getfield 98, 3) := by decide +kernel
theorem dX7_mix_48 : decode cX7_mix 48 = .ok (.iload_n 2, 1) := by decide +kernel
theorem dX7_mix_49 : decode cX7_mix 49 = .ok (.iaload, 1) := by decide +kernel
theorem dX7_mix_50 : decode cX7_mix 50 = .ok (.iastore, 1) := by decide +kernel
theorem dX7_mix_51 : decode cX7_mix 51 = .ok (.aload_n 0, 1) := by decide +kernel
theorem dX7_mix_52 : decode cX7_mix 52 = .ok (.iload_n 1, 1) := by decide +kernel
theorem dX7_mix_53 : decode cX7_mix 53 = .ok (.invokevirtual 151, 3) := by decide +kernel
theorem dX7_mix_56 : decode cX7_mix 56 = .ok (.aload_n 0, 1) := by decide +kernel
theorem dX7_mix_57 : decode cX7_mix 57 = .ok (.getfield 92, 3) := by decide +kernel
theorem dX7_mix_60 : decode cX7_mix 60 = .ok (.iload_n 2, 1) := by decide +kernel
theorem dX7_mix_61 : decode cX7_mix 61 = .ok (.iaload, 1) := by decide +kernel
theorem dX7_mix_62 : decode cX7_mix 62 = .ok (.aload_n 0, 1) := by decide +kernel
theorem dX7_mix_63 : decode cX7_mix 63 = .ok (.getfield 32, 3) := by decide +kernel
theorem dX7_mix_66 : decode cX7_mix 66 = .ok (.iload_n 1, 1) := by decide +kernel
theorem dX7_mix_67 : decode cX7_mix 67 = .ok (.iaload, 1) := by decide +kernel
theorem dX7_mix_68 : decode cX7_mix 68 = .ok (.if_icmp .ne 53, 3) := by decide +kernel
theorem dX7_mix_71 : decode cX7_mix 71 = .ok (.aload_n 0, 1) := by decide +kernel
theorem dX7_mix_72 : decode cX7_mix 72 = .ok (.getfield 95, 3) := by decide +kernel
theorem dX7_mix_75 : decode cX7_mix 75 = .ok (.iload_n 2, 1) := by decide +kernel
theorem dX7_mix_76 : decode cX7_mix 76 = .ok (.iaload, 1) := by decide +kernel
theorem dX7_mix_77 : decode cX7_mix 77 = .ok (.aload_n 0, 1) := by decide +kernel
theorem dX7_mix_78 : decode cX7_mix 78 = .ok (.getfield 35, 3) := by decide +kernel
theorem dX7_mix_81 : decode cX7_mix 81 = .ok (.iload_n 1, 1) := by decide +kernel
theorem dX7_mix_82 : decode cX7_mix 82 = .ok (.iaload, 1) := by decide +kernel
theorem dX7_mix_83 : decode cX7_mix 83 = .ok (.if_icmp .ne 38, 3) := by decide +kernel
theorem dX7_mix_86 : decode cX7_mix 86 = .ok (.aload_n 0, 1) := by decide +kernel
theorem dX7_mix_87 : decode cX7_mix 87 = .ok (.getfield 98, 3) := by decide +kernel
theorem dX7_mix_90 : decode cX7_mix 90 = .ok (.iload_n 2, 1) := by decide +kernel
theorem dX7_mix_91 : decode cX7_mix 91 = .ok (.iaload, 1) := by decide +kernel
theorem dX7_mix_92 : decode cX7_mix 92 = .ok (.aload_n 0, 1) := by decide +kernel
theorem dX7_mix_93 : decode cX7_mix 93 = .ok (.getfield 38, 3) := by decide +kernel
theorem dX7_mix_96 : decode cX7_mix 96 = .ok (.iload_n 1, 1) := by decide +kernel
theorem dX7_mix_97 : decode cX7_mix 97 = .ok (.iaload, 1) := by decide +kernel
theorem dX7_mix_98 : decode cX7_mix 98 = .ok (.if_icmp .ne 23, 3) := by decide +kernel
theorem dX7_mix_101 : decode cX7_mix 101 = .ok (.aload_n 0, 1) := by decide +kernel
theorem dX7_mix_102 : decode cX7_mix 102 = .ok (.iload_n 1, 1) := by decide +kernel
theorem dX7_mix_103 : decode cX7_mix 103 = .ok (.aload_n 0, 1) := by decide +kernel
theorem dX7_mix_104 : decode cX7_mix 104 = .ok (.getfield 104, 3) := by decide +kernel
theorem dX7_mix_107 : decode cX7_mix 107 = .ok (.iload_n 2, 1) := by decide +kernel
theorem dX7_mix_108 : decode cX7_mix 108 = .ok (.iaload, 1) := by decide +kernel
theorem dX7_mix_109 : decode cX7_mix 109 = .ok (.aload_n 0, 1) := by decide +kernel
theorem dX7_mix_110 : decode cX7_mix 110 = .ok (.getfield 107, 3) := by decide +kernel
theorem dX7_mix_113 : decode cX7_mix 113 = .ok (.iload_n 2, 1) := by decide +kernel
theorem dX7_mix_114 : decode cX7_mix 114 = .ok (.iaload, 1) := by decide +kernel
theorem dX7_mix_115 : decode cX7_mix 115 = .ok (.invokevirtual 162, 3) := by decide +kernel
theorem dX7_mix_118 : decode cX7_mix 118 = .ok (.goto 8, 3) := by decide +kernel
theorem dX7_mix_121 : decode cX7_mix 121 = .ok (.aload_n 0, 1) := by decide +kernel
theorem dX7_mix_122 : decode cX7_mix 122 = .ok (.iload_n 1, 1) := by decide +kernel
theorem dX7_mix_123 : decode cX7_mix 123 = .ok (.invokevirtual 155, 3) := by decide +kernel
theorem dX7_mix_126 : decode cX7_mix 126 = .ok (.return_, 1) := by decide +kernel
set_option maxRecDepth 20000 in
theorem ggX7_finish_X7_begin : GoodIn wsX7_finish wsX7_begin := goodIn_r _ [13, 2, 14, 15, 3, 16, 17, 18, 12, 19, 20, 21, 32, 33, 34, 35, 36, 37, 38, 39, 40, 41, 42, 43, 44, 45, 46, 47, 48, 49, 50, 51, 52, 53, 54, 55, 56, 57, 58, 59, 60, 61, 62, 63, 64, 65, 66, 67, 68, 69, 70, 71, 72] (by decide +kernel) (by decide +kernel)
set_option maxRecDepth 20000 in
theorem gX7_finish_X7_begin : GoodIn wsX7_finish (wsV RX7 134 RX7 yX7_begin wsX7_begin) := goodIn_app (goodIn_of _ (by decide +kernel)) ggX7_finish_X7_begin
set_option maxRecDepth 20000 in
theorem ggX7_finish_X7_isWhole : GoodIn wsX7_finish wsX7_isWhole := goodIn_r _ [25, 7, 26, 27, 28, 29, 12, 30, 31, 32, 33, 34, 35, 36, 37, 38, 39, 40, 41, 42, 43, 44, 45, 46, 47, 48, 49, 50, 51, 52, 53, 54, 55, 56, 57, 58, 59, 60, 61, 62, 63, 64, 65, 66, 67, 68, 69, 70, 71, 72] (by decide +kernel) (by decide +kernel)
set_option maxRecDepth 20000 in
theorem gX7_finish_X7_isWhole : GoodIn wsX7_finish (wsV RX7 178 RX7 yX7_isWhole wsX7_isWhole) := goodIn_app (goodIn_of _ (by decide +kernel)) ggX7_finish_X7_isWhole
theorem dX7_finish_0 : decode cX7_finish 0 = .ok (.aload_n 0, 1) := by decide +kernel
theorem dX7_finish_1 : decode cX7_finish 1 = .ok (.getfield 131, 3) := by decide +kernel
theorem dX7_finish_4 : decode cX7_finish 4 = .ok (.iconst 1, 1) := by decide +kernel
theorem dX7_finish_5 : decode cX7_finish 5 = .ok (.iadd, 1) := by decide +kernel
theorem dX7_finish_6 : decode cX7_finish 6 = .ok (.aload_n 0, 1) := by decide +kernel
theorem dX7_finish_7 : decode cX7_finish 7 = .ok (.getfield 53, 3) := by decide +kernel
theorem dX7_finish_10 : decode cX7_finish 10 = .ok (.iload_n 1, 1) := by decide +kernel
theorem dX7_finish_11 : decode cX7_finish 11 = .ok (.iaload, 1) := by decide +kernel
theorem dX7_finish_12 : decode cX7_finish 12 = .ok (.isub, 1) := by decide +kernel
theorem dX7_finish_13 : decode cX7_finish 13 = .ok (.aload_n 0, 1) := by decide +kernel
theorem dX7_finish_14 : decode cX7_finish 14 = .ok (.getfield 50, 3) := by decide +kernel
theorem dX7_finish_17 : decode cX7_finish 17 = .ok (.iload_n 1, 1) := by decide +kernel
theorem dX7_finish_18 : decode cX7_finish 18 = .ok (.iaload, 1) := by decide +kernel
theorem dX7_finish_19 : decode cX7_finish 19 = .ok (.if_icmp .lt 50, 3) := by decide +kernel
theorem dX7_finish_22 : decode cX7_finish 22 = .ok (.aload_n 0, 1) := by decide +kernel
theorem dX7_finish_23 : decode cX7_finish 23 = .ok (.getfield 50, 3) := by decide +kernel
theorem dX7_finish_26 : decode cX7_finish 26 = .ok (.iload_n 1, 1) := by decide +kernel
theorem dX7_finish_27 : decode cX7_finish 27 = .ok (.iconst 2, 1) := by decide +kernel
theorem dX7_finish_28 : decode cX7_finish 28 = .ok (.aload_n 0, 1) := by decide +kernel
theorem dX7_finish_29 : decode cX7_finish 29 = .ok (.getfield 50, 3) := by decide +kernel
theorem dX7_finish_32 : decode cX7_finish 32 = .ok (.iload_n 1, 1) := by decide +kernel
theorem dX7_finish_33 : decode cX7_finish 33 = .ok (.iaload, 1) := by decide +kernel
theorem dX7_finish_34 : decode cX7_finish 34 = .ok (.imul, 1) := by decide +kernel
theorem dX7_finish_35 : decode cX7_finish 35 = .ok (.aload_n 0, 1) := by decide +kernel
theorem dX7_finish_36 : decode cX7_finish 36 = .ok (.getfield 19, 3) := by decide +kernel
theorem dX7_finish_39 : decode cX7_finish 39 = .ok (.if_icmp .le 10, 3) := by decide +kernel
theorem dX7_finish_42 : decode cX7_finish 42 = .ok (.aload_n 0, 1) := by decide +kernel
theorem dX7_finish_43 : decode cX7_finish 43 = .ok (.getfield 19, 3) := by decide +kernel
theorem dX7_finish_46 : decode cX7_finish 46 = .ok (.goto 11, 3) := by decide +kernel
theorem dX7_finish_49 : decode cX7_finish 49 = .ok (.iconst 2, 1) := by decide +kernel
theorem dX7_finish_50 : decode cX7_finish 50 = .ok (.aload_n 0, 1) := by decide +kernel
theorem dX7_finish_51 : decode cX7_finish 51 = .ok (.getfield 50, 3) := by decide +kernel
theorem dX7_finish_54 : decode cX7_finish 54 = .ok (.iload_n 1, 1) := by decide +kernel
theorem dX7_finish_55 : decode cX7_finish 55 = .ok (.iaload, 1) := by decide +kernel
theorem dX7_finish_56 : decode cX7_finish 56 = .ok (.imul, 1) := by decide +kernel
theorem dX7_finish_57 : decode cX7_finish 57 = .ok (.iastore, 1) := by decide +kernel
theorem dX7_finish_58 : decode cX7_finish 58 = .ok (.aload_n 0, 1) := by decide +kernel
theorem dX7_finish_59 : decode cX7_finish 59 = .ok (.iload_n 1, 1) := by decide +kernel
theorem dX7_finish_60 : decode cX7_finish 60 = .ok (.aload_n 0, 1) := by decide +kernel
theorem dX7_finish_61 : decode cX7_finish 61 = .ok (.getfield 131, 3) := by decide +kernel
theorem dX7_finish_64 : decode cX7_finish 64 = .ok (.iconst 1, 1) := by decide +kernel
theorem dX7_finish_65 : decode cX7_finish 65 = .ok (.iadd, 1) := by decide +kernel
theorem dX7_finish_66 : decode cX7_finish 66 = .ok (.invokevirtual 134, 3) := by decide +kernel
theorem dX7_finish_69 : decode cX7_finish 69 = .ok (.aload_n 0, 1) := by decide +kernel
theorem dX7_finish_70 : decode cX7_finish 70 = .ok (.getfield 80, 3) := by decide +kernel
theorem dX7_finish_73 : decode cX7_finish 73 = .ok (.iload_n 1, 1) := by decide +kernel
theorem dX7_finish_74 : decode cX7_finish 74 = .ok (.iaload, 1) := by decide +kernel
theorem dX7_finish_75 : decode cX7_finish 75 = .ok (.ifCond .le 53, 3) := by decide +kernel
theorem dX7_finish_78 : decode cX7_finish 78 = .ok (.aload_n 0, 1) := by decide +kernel
theorem dX7_finish_79 : decode cX7_finish 79 = .ok (.getfield 131, 3) := by decide +kernel
theorem dX7_finish_82 : decode cX7_finish 82 = .ok (.iconst 1, 1) := by decide +kernel
theorem dX7_finish_83 : decode cX7_finish 83 = .ok (.iadd, 1) := by decide +kernel
theorem dX7_finish_84 : decode cX7_finish 84 = .ok (.aload_n 0, 1) := by decide +kernel
theorem dX7_finish_85 : decode cX7_finish 85 = .ok (.getfield 83, 3) := by decide +kernel
theorem dX7_finish_88 : decode cX7_finish 88 = .ok (.iload_n 1, 1) := by decide +kernel
theorem dX7_finish_89 : decode cX7_finish 89 = .ok (.iaload, 1) := by decide +kernel
theorem dX7_finish_90 : decode cX7_finish 90 = .ok (.if_icmp .lt 38, 3) := by decide +kernel
theorem dX7_finish_93 : decode cX7_finish 93 = .ok (.aload_n 0, 1) := by decide +kernel
theorem dX7_finish_94 : decode cX7_finish 94 = .ok (.getfield 32, 3) := by decide +kernel
theorem dX7_finish_97 : decode cX7_finish 97 = .ok (.iload_n 1, 1) := by decide +kernel
theorem dX7_finish_98 : decode cX7_finish 98 = .ok (.iaload, 1) := by decide +kernel
theorem dX7_finish_99 : decode cX7_finish 99 = .ok (.aload_n 0, 1) := by decide +kernel
theorem dX7_finish_100 : decode cX7_finish 100 = .ok (.getfield 80, 3) := by decide +kernel
theorem dX7_finish_103 : decode cX7_finish 103 = .ok (.iload_n 1, 1) := by decide +kernel
theorem dX7_finish_104 : decode cX7_finish 104 = .ok (.iaload, 1) := by decide +kernel
theorem dX7_finish_105 : decode cX7_finish 105 = .ok (.if_icmp .ne 23, 3) := by decide +kernel
theorem dX7_finish_108 : decode cX7_finish 108 = .ok (.aload_n 0, 1) := by decide +kernel
theorem dX7_finish_109 : decode cX7_finish 109 = .ok (.iload_n 1, 1) := by decide +kernel
theorem dX7_finish_110 : decode cX7_finish 110 = .ok (.invokevirtual 178, 3) := by decide +kernel
theorem dX7_finish_113 : decode cX7_finish 113 = .ok (.ifCond .eq 15, 3) := by decide +kernel
theorem dX7_finish_116 : decode cX7_finish 116 = .ok (.aload_n 0, 1) := by decide +kernel
theorem dX7_finish_117 : decode cX7_finish 117 = .ok (.getfield 47, 3) := by decide +kernel
theorem dX7_finish_120 : decode cX7_finish 120 = .ok (.iload_n 1, 1) := by decide +kernel
theorem dX7_finish_121 : decode cX7_finish 121 = .ok (.aload_n 0, 1) := by decide +kernel
theorem dX7_finish_122 : decode cX7_finish 122 = .ok (.getfield 32, 3) := by decide +kernel
theorem dX7_finish_125 : decode cX7_finish 125 = .ok (.iload_n 1, 1) := by decide +kernel
theorem dX7_finish_126 : decode cX7_finish 126 = .ok (.iaload, 1) := by decide +kernel
theorem dX7_finish_127 : decode cX7_finish 127 = .ok (.iastore, 1) := by decide +kernel
theorem dX7_finish_128 : decode cX7_finish 128 = .ok (.return_, 1) := by decide +kernel
theorem dX7_greatestKept_0 : decode cX7_greatestKept 0 = .ok (.iconst 0, 1) := by decide +kernel
theorem dX7_greatestKept_1 : decode cX7_greatestKept 1 = .ok (.istore_n 1, 1) := by decide +kernel
theorem dX7_greatestKept_2 : decode cX7_greatestKept 2 = .ok (.iconst 0, 1) := by decide +kernel
theorem dX7_greatestKept_3 : decode cX7_greatestKept 3 = .ok (.istore_n 2, 1) := by decide +kernel
theorem dX7_greatestKept_4 : decode cX7_greatestKept 4 = .ok (.iload_n 2, 1) := by decide +kernel
theorem dX7_greatestKept_5 : decode cX7_greatestKept 5 = .ok (.aload_n 0, 1) := by decide +kernel
theorem dX7_greatestKept_6 : decode cX7_greatestKept 6 = .ok (.getfield 119, 3) := by decide +kernel
theorem dX7_greatestKept_9 : decode cX7_greatestKept 9 = .ok (.if_icmp .ge 26, 3) := by decide +kernel
theorem dX7_greatestKept_12 : decode cX7_greatestKept 12 = .ok (.aload_n 0, 1) := by decide +kernel
theorem dX7_greatestKept_13 : decode cX7_greatestKept 13 = .ok (.getfield 32, 3) := by decide +kernel
theorem dX7_greatestKept_16 : decode cX7_greatestKept 16 = .ok (.iload_n 2, 1) := by decide +kernel
theorem dX7_greatestKept_17 : decode cX7_greatestKept 17 = .ok (.iaload, 1) := by decide +kernel
theorem dX7_greatestKept_18 : decode cX7_greatestKept 18 = .ok (.iload_n 1, 1) := by decide +kernel
theorem dX7_greatestKept_19 : decode cX7_greatestKept 19 = .ok (.if_icmp .le 10, 3) := by decide +kernel
theorem dX7_greatestKept_22 : decode cX7_greatestKept 22 = .ok (.aload_n 0, 1) := by decide +kernel
theorem dX7_greatestKept_23 : decode cX7_greatestKept 23 = .ok (.getfield 32, 3) := by decide +kernel
theorem dX7_greatestKept_26 : decode cX7_greatestKept 26 = .ok (.iload_n 2, 1) := by decide +kernel
theorem dX7_greatestKept_27 : decode cX7_greatestKept 27 = .ok (.iaload, 1) := by decide +kernel
theorem dX7_greatestKept_28 : decode cX7_greatestKept 28 = .ok (.istore_n 1, 1) := by decide +kernel
theorem dX7_greatestKept_29 : decode cX7_greatestKept 29 = .ok (.iinc 2 1, 3) := by decide +kernel
theorem dX7_greatestKept_32 : decode cX7_greatestKept 32 = .ok (.goto (-28), 3) := by decide +kernel
theorem dX7_greatestKept_35 : decode cX7_greatestKept 35 = .ok (.iload_n 1, 1) := by decide +kernel
theorem dX7_greatestKept_36 : decode cX7_greatestKept 36 = .ok (.ireturn, 1) := by decide +kernel
set_option maxRecDepth 20000 in
theorem ggX7_look_X7_greatestKept : GoodIn wsX7_look wsX7_greatestKept := goodIn_r _ [10, 3, 4, 21, 22, 23, 24, 25, 26, 27, 28, 29, 30, 31, 32, 33, 34, 35, 36, 37, 38, 39, 40, 41, 42, 43, 44, 45, 46, 47, 48, 49, 50, 51, 52, 53, 54, 55, 56, 57, 58, 59, 60, 61] (by decide +kernel) (by decide +kernel)
set_option maxRecDepth 20000 in
theorem gX7_look_X7_greatestKept : GoodIn wsX7_look (wsV RX7 181 RX7 yX7_greatestKept wsX7_greatestKept) := goodIn_app (goodIn_of _ (by decide +kernel)) ggX7_look_X7_greatestKept
set_option maxRecDepth 20000 in
theorem ggX7_look_X7_isWhole : GoodIn wsX7_look wsX7_isWhole := goodIn_r _ [14, 4, 15, 16, 17, 18, 9, 19, 20, 21, 22, 23, 24, 25, 26, 27, 28, 29, 30, 31, 32, 33, 34, 35, 36, 37, 38, 39, 40, 41, 42, 43, 44, 45, 46, 47, 48, 49, 50, 51, 52, 53, 54, 55, 56, 57, 58, 59, 60, 61] (by decide +kernel) (by decide +kernel)
set_option maxRecDepth 20000 in
theorem gX7_look_X7_isWhole : GoodIn wsX7_look (wsV RX7 178 RX7 yX7_isWhole wsX7_isWhole) := goodIn_app (goodIn_of _ (by decide +kernel)) ggX7_look_X7_isWhole
theorem dX7_look_0 : decode cX7_look 0 = .ok (.aload_n 0, 1) := by decide +kernel
theorem dX7_look_1 : decode cX7_look 1 = .ok (.invokevirtual 181, 3) := by decide +kernel
theorem dX7_look_4 : decode cX7_look 4 = .ok (.istore_n 1, 1) := by decide +kernel
theorem dX7_look_5 : decode cX7_look 5 = .ok (.iload_n 1, 1) := by decide +kernel
theorem dX7_look_6 : decode cX7_look 6 = .ok (.aload_n 0, 1) := by decide +kernel
theorem dX7_look_7 : decode cX7_look 7 = .ok (.getfield 185, 3) := by decide +kernel
theorem dX7_look_10 : decode cX7_look 10 = .ok (.if_icmp .le 13, 3) := by decide +kernel
theorem dX7_look_13 : decode cX7_look 13 = .ok (.aload_n 0, 1) := by decide +kernel
theorem dX7_look_14 : decode cX7_look 14 = .ok (.iload_n 1, 1) := by decide +kernel
theorem dX7_look_15 : decode cX7_look 15 = .ok (.putfield 185, 3) := by decide +kernel
theorem dX7_look_18 : decode cX7_look 18 = .ok (.aload_n 0, 1) := by decide +kernel
theorem dX7_look_19 : decode cX7_look 19 = .ok (.iconst (-1), 1) := by decide +kernel
theorem dX7_look_20 : decode cX7_look 20 = .ok (.putfield 86, 3) := by decide +kernel
theorem dX7_look_23 : decode cX7_look 23 = .ok (.iload_n 1, 1) := by decide +kernel
theorem dX7_look_24 : decode cX7_look 24 = .ok (.ifCond .le 7, 3) := by decide +kernel
theorem dX7_look_27 : decode cX7_look 27 = .ok (.iconst 1, 1) := by decide +kernel
theorem dX7_look_28 : decode cX7_look 28 = .ok (.goto 4, 3) := by decide +kernel
theorem dX7_look_31 : decode cX7_look 31 = .ok (.iconst 0, 1) := by decide +kernel
theorem dX7_look_32 : decode cX7_look 32 = .ok (.istore_n 2, 1) := by decide +kernel
theorem dX7_look_33 : decode cX7_look 33 = .ok (.iconst 0, 1) := by decide +kernel
theorem dX7_look_34 : decode cX7_look 34 = .ok (.istore_n 3, 1) := by decide +kernel
theorem dX7_look_35 : decode cX7_look 35 = .ok (.iload_n 3, 1) := by decide +kernel
theorem dX7_look_36 : decode cX7_look 36 = .ok (.aload_n 0, 1) := by decide +kernel
theorem dX7_look_37 : decode cX7_look 37 = .ok (.getfield 119, 3) := by decide +kernel
theorem dX7_look_40 : decode cX7_look 40 = .ok (.if_icmp .ge 37, 3) := by decide +kernel
theorem dX7_look_43 : decode cX7_look 43 = .ok (.iload_n 2, 1) := by decide +kernel
theorem dX7_look_44 : decode cX7_look 44 = .ok (.ifCond .eq 25, 3) := by decide +kernel
theorem dX7_look_47 : decode cX7_look 47 = .ok (.aload_n 0, 1) := by decide +kernel
theorem dX7_look_48 : decode cX7_look 48 = .ok (.getfield 32, 3) := by decide +kernel
theorem dX7_look_51 : decode cX7_look 51 = .ok (.iload_n 3, 1) := by decide +kernel
theorem dX7_look_52 : decode cX7_look 52 = .ok (.iaload, 1) := by decide +kernel
theorem dX7_look_53 : decode cX7_look 53 = .ok (.iload_n 1, 1) := by decide +kernel
theorem dX7_look_54 : decode cX7_look 54 = .ok (.if_icmp .ne 15, 3) := by decide +kernel
theorem dX7_look_57 : decode cX7_look 57 = .ok (.aload_n 0, 1) := by decide +kernel
theorem dX7_look_58 : decode cX7_look 58 = .ok (.iload_n 3, 1) := by decide +kernel
theorem dX7_look_59 : decode cX7_look 59 = .ok (.invokevirtual 178, 3) := by decide +kernel
theorem dX7_look_62 : decode cX7_look 62 = .ok (.ifCond .eq 7, 3) := by decide +kernel
theorem dX7_look_65 : decode cX7_look 65 = .ok (.iconst 1, 1) := by decide +kernel
theorem dX7_look_66 : decode cX7_look 66 = .ok (.goto 4, 3) := by decide +kernel
theorem dX7_look_69 : decode cX7_look 69 = .ok (.iconst 0, 1) := by decide +kernel
theorem dX7_look_70 : decode cX7_look 70 = .ok (.istore_n 2, 1) := by decide +kernel
theorem dX7_look_71 : decode cX7_look 71 = .ok (.iinc 3 1, 3) := by decide +kernel
theorem dX7_look_74 : decode cX7_look 74 = .ok (.goto (-39), 3) := by decide +kernel
theorem dX7_look_77 : decode cX7_look 77 = .ok (.iload_n 2, 1) := by decide +kernel
theorem dX7_look_78 : decode cX7_look 78 = .ok (.ifCond .eq 18, 3) := by decide +kernel
theorem dX7_look_81 : decode cX7_look 81 = .ok (.aload_n 0, 1) := by decide +kernel
theorem dX7_look_82 : decode cX7_look 82 = .ok (.getfield 86, 3) := by decide +kernel
theorem dX7_look_85 : decode cX7_look 85 = .ok (.ifCond .ge 11, 3) := by decide +kernel
theorem dX7_look_88 : decode cX7_look 88 = .ok (.aload_n 0, 1) := by decide +kernel
theorem dX7_look_89 : decode cX7_look 89 = .ok (.aload_n 0, 1) := by decide +kernel
theorem dX7_look_90 : decode cX7_look 90 = .ok (.getfield 131, 3) := by decide +kernel
theorem dX7_look_93 : decode cX7_look 93 = .ok (.putfield 86, 3) := by decide +kernel
theorem dX7_look_96 : decode cX7_look 96 = .ok (.return_, 1) := by decide +kernel
set_option maxRecDepth 20000 in
theorem ggX7_ticks_X7_isIn : GoodIn wsX7_ticks wsX7_isIn := goodIn_r _ [7] (by decide +kernel) (by decide +kernel)
set_option maxRecDepth 20000 in
theorem gX7_ticks_X7_isIn : GoodIn wsX7_ticks (va_wsS RX7 122 yX7_isIn wsX7_isIn) := goodIn_app (goodIn_of _ (by decide +kernel)) ggX7_ticks_X7_isIn
set_option maxRecDepth 20000 in
theorem ggX7_ticks_X7_send : GoodIn wsX7_ticks wsX7_send := goodIn_r _ [11, 12, 13, 14, 15, 16, 17, 18, 19, 20, 21, 22, 23, 24, 1, 25, 26, 27, 28, 29, 30, 31, 32, 33, 6, 34, 35, 36, 37, 38, 39, 40, 41, 42, 43, 44, 45, 46, 47, 48, 118, 119, 120, 121, 122, 123, 124, 125, 126, 127, 128, 129, 130, 131, 132, 133, 134, 135, 136, 137, 138, 139, 140, 141, 142, 143, 144, 145, 146, 147, 148, 149, 150, 151, 152, 153, 154, 155, 156, 157, 158] (by decide +kernel) (by decide +kernel)
set_option maxRecDepth 20000 in
theorem gX7_ticks_X7_send : GoodIn wsX7_ticks (wsV RX7 189 RX7 yX7_send wsX7_send) := goodIn_app (goodIn_of _ (by decide +kernel)) ggX7_ticks_X7_send
set_option maxRecDepth 20000 in
theorem ggX7_ticks_X7_listen : GoodIn wsX7_ticks wsX7_listen := goodIn_r _ [52, 3, 12, 53, 54, 55, 56, 43, 44, 45, 6, 46, 47, 48, 118, 119, 120, 121, 122, 123, 124, 125, 126, 127, 128, 129, 130, 131, 132, 133, 134, 135, 136, 137, 138, 139, 140, 141, 142, 143, 144, 145, 146, 147, 148, 149, 150, 151, 152, 153, 154, 155, 156, 157, 158] (by decide +kernel) (by decide +kernel)
set_option maxRecDepth 20000 in
theorem gX7_ticks_X7_listen : GoodIn wsX7_ticks (wsV RX7 192 RX7 yX7_listen wsX7_listen) := goodIn_app (goodIn_of _ (by decide +kernel)) ggX7_ticks_X7_listen
set_option maxRecDepth 20000 in
theorem ggX7_ticks_X7_work : GoodIn wsX7_ticks wsX7_work := goodIn_r _ [60, 54, 12, 13, 19, 20, 21, 23, 22, 61, 62, 63, 6, 64, 14, 28, 24, 1, 65, 31, 32, 33, 34, 35, 66, 67, 68, 69, 70, 71, 72, 73, 74, 75, 76, 27, 43, 44, 45, 46, 47, 48, 77, 78, 79, 80, 16, 15, 18, 17, 40, 41, 81, 82, 83, 84, 42, 85, 86, 87, 88, 89, 90, 91, 92, 93, 94, 95, 96, 97, 118, 119, 120, 121, 122, 123, 124, 125, 126, 127, 128, 129, 130, 131, 132, 133, 134, 135, 136, 137, 138, 139, 140, 141, 142, 143, 144, 145, 146, 147, 148, 149, 150, 151, 152, 153, 154, 155, 156, 157, 158] (by decide +kernel) (by decide +kernel)
set_option maxRecDepth 20000 in
theorem gX7_ticks_X7_work : GoodIn wsX7_ticks (wsV RX7 195 RX7 yX7_work wsX7_work) := goodIn_app (goodIn_of _ (by decide +kernel)) ggX7_ticks_X7_work
set_option maxRecDepth 20000 in
theorem ggX7_ticks_X7_finish : GoodIn wsX7_ticks wsX7_finish := goodIn_r _ [101, 1, 76, 70, 102, 21, 23, 14, 103, 72, 73, 74, 6, 75, 28, 27, 43, 44, 45, 46, 47, 48, 104, 105, 106, 107, 16, 31, 32, 33, 34, 35, 118, 119, 120, 121, 122, 123, 124, 125, 126, 127, 128, 129, 130, 131, 132, 133, 134, 135, 136, 137, 138, 139, 140, 141, 142, 143, 144, 145, 146, 147, 148, 149, 150, 151, 152, 153, 154, 155, 156, 157, 158] (by decide +kernel) (by decide +kernel)
set_option maxRecDepth 20000 in
theorem gX7_ticks_X7_finish : GoodIn wsX7_ticks (wsV RX7 198 RX7 yX7_finish wsX7_finish) := goodIn_app (goodIn_of _ (by decide +kernel)) ggX7_ticks_X7_finish
set_option maxRecDepth 20000 in
theorem ggX7_ticks_X7_look : GoodIn wsX7_ticks wsX7_look := goodIn_r _ [111, 112, 113, 3, 14, 1, 114, 115, 116, 6, 117, 104, 105, 106, 107, 16, 31, 32, 33, 34, 35, 118, 119, 120, 121, 122, 123, 124, 125, 126, 127, 128, 129, 130, 131, 132, 133, 134, 135, 136, 137, 138, 139, 140, 141, 142, 143, 144, 145, 146, 147, 148, 149, 150, 151, 152, 153, 154, 155, 156, 157, 158] (by decide +kernel) (by decide +kernel)
set_option maxRecDepth 20000 in
theorem gX7_ticks_X7_look : GoodIn wsX7_ticks (wsV RX7 201 RX7 yX7_look wsX7_look) := goodIn_app (goodIn_of _ (by decide +kernel)) ggX7_ticks_X7_look
theorem dX7_ticks_0 : decode cX7_ticks 0 = .ok (.iload_n 1, 1) := by decide +kernel
theorem dX7_ticks_1 : decode cX7_ticks 1 = .ok (.iconst 1, 1) := by decide +kernel
theorem dX7_ticks_2 : decode cX7_ticks 2 = .ok (.sipush 200, 3) := by decide +kernel
theorem dX7_ticks_5 : decode cX7_ticks 5 = .ok (.invokestatic 122, 3) := by decide +kernel
theorem dX7_ticks_8 : decode cX7_ticks 8 = .ok (.ifCond .eq 14, 3) := by decide +kernel
theorem dX7_ticks_11 : decode cX7_ticks 11 = .ok (.aload_n 0, 1) := by decide +kernel
theorem dX7_ticks_12 : decode cX7_ticks 12 = .ok (.getfield 131, 3) := by decide +kernel
theorem dX7_ticks_15 : decode cX7_ticks 15 = .ok (.iload_n 1, 1) := by decide +kernel
theorem dX7_ticks_16 : decode cX7_ticks 16 = .ok (.iadd, 1) := by decide +kernel
theorem dX7_ticks_17 : decode cX7_ticks 17 = .ok (.ldc 188, 2) := by decide +kernel
theorem dX7_ticks_19 : decode cX7_ticks 19 = .ok (.if_icmp .le 5, 3) := by decide +kernel
theorem dX7_ticks_22 : decode cX7_ticks 22 = .ok (.iconst (-1), 1) := by decide +kernel
theorem dX7_ticks_23 : decode cX7_ticks 23 = .ok (.ireturn, 1) := by decide +kernel
theorem dX7_ticks_24 : decode cX7_ticks 24 = .ok (.iconst 0, 1) := by decide +kernel
theorem dX7_ticks_25 : decode cX7_ticks 25 = .ok (.istore_n 2, 1) := by decide +kernel
theorem dX7_ticks_26 : decode cX7_ticks 26 = .ok (.iload_n 2, 1) := by decide +kernel
theorem dX7_ticks_27 : decode cX7_ticks 27 = .ok (.iload_n 1, 1) := by decide +kernel
theorem dX7_ticks_28 : decode cX7_ticks 28 = .ok (.if_icmp .ge 107, 3) := by decide +kernel
theorem dX7_ticks_31 : decode cX7_ticks 31 = .ok (.iconst 0, 1) := by decide +kernel
theorem dX7_ticks_32 : decode cX7_ticks 32 = .ok (.istore_n 3, 1) := by decide +kernel
theorem dX7_ticks_33 : decode cX7_ticks 33 = .ok (.iload_n 3, 1) := by decide +kernel
theorem dX7_ticks_34 : decode cX7_ticks 34 = .ok (.aload_n 0, 1) := by decide +kernel
theorem dX7_ticks_35 : decode cX7_ticks 35 = .ok (.getfield 119, 3) := by decide +kernel
theorem dX7_ticks_38 : decode cX7_ticks 38 = .ok (.if_icmp .ge 14, 3) := by decide +kernel
theorem dX7_ticks_41 : decode cX7_ticks 41 = .ok (.aload_n 0, 1) := by decide +kernel
theorem dX7_ticks_42 : decode cX7_ticks 42 = .ok (.iload_n 3, 1) := by decide +kernel
theorem dX7_ticks_43 : decode cX7_ticks 43 = .ok (.invokevirtual 189, 3) := by decide +kernel
theorem dX7_ticks_46 : decode cX7_ticks 46 = .ok (.iinc 3 1, 3) := by decide +kernel
theorem dX7_ticks_49 : decode cX7_ticks 49 = .ok (.goto (-16), 3) := by decide +kernel
theorem dX7_ticks_52 : decode cX7_ticks 52 = .ok (.iconst 0, 1) := by decide +kernel
theorem dX7_ticks_53 : decode cX7_ticks 53 = .ok (.istore_n 3, 1) := by decide +kernel
theorem dX7_ticks_54 : decode cX7_ticks 54 = .ok (.iload_n 3, 1) := by decide +kernel
theorem dX7_ticks_55 : decode cX7_ticks 55 = .ok (.aload_n 0, 1) := by decide +kernel
theorem dX7_ticks_56 : decode cX7_ticks 56 = .ok (.getfield 119, 3) := by decide +kernel
theorem dX7_ticks_59 : decode cX7_ticks 59 = .ok (.if_icmp .ge 14, 3) := by decide +kernel
theorem dX7_ticks_62 : decode cX7_ticks 62 = .ok (.aload_n 0, 1) := by decide +kernel
theorem dX7_ticks_63 : decode cX7_ticks 63 = .ok (.iload_n 3, 1) := by decide +kernel
theorem dX7_ticks_64 : decode cX7_ticks 64 = .ok (.invokevirtual 192, 3) := by decide +kernel
theorem dX7_ticks_67 : decode cX7_ticks 67 = .ok (.iinc 3 1, 3) := by decide +kernel
theorem dX7_ticks_70 : decode cX7_ticks 70 = .ok (.goto (-16), 3) := by decide +kernel
theorem dX7_ticks_73 : decode cX7_ticks 73 = .ok (.iconst 0, 1) := by decide +kernel
theorem dX7_ticks_74 : decode cX7_ticks 74 = .ok (.istore_n 3, 1) := by decide +kernel
theorem dX7_ticks_75 : decode cX7_ticks 75 = .ok (.iload_n 3, 1) := by decide +kernel
theorem dX7_ticks_76 : decode cX7_ticks 76 = .ok (.aload_n 0, 1) := by decide +kernel
theorem dX7_ticks_77 : decode cX7_ticks 77 = .ok (.getfield 119, 3) := by decide +kernel
theorem dX7_ticks_80 : decode cX7_ticks 80 = .ok (.if_icmp .ge 14, 3) := by decide +kernel
theorem dX7_ticks_83 : decode cX7_ticks 83 = .ok (.aload_n 0, 1) := by decide +kernel
theorem dX7_ticks_84 : decode cX7_ticks 84 = .ok (.iload_n 3, 1) := by decide +kernel
theorem dX7_ticks_85 : decode cX7_ticks 85 = .ok (.invokevirtual 195, 3) := by decide +kernel
theorem dX7_ticks_88 : decode cX7_ticks 88 = .ok (.iinc 3 1, 3) := by decide +kernel
theorem dX7_ticks_91 : decode cX7_ticks 91 = .ok (.goto (-16), 3) := by decide +kernel
theorem dX7_ticks_94 : decode cX7_ticks 94 = .ok (.iconst 0, 1) := by decide +kernel
theorem dX7_ticks_95 : decode cX7_ticks 95 = .ok (.istore_n 3, 1) := by decide +kernel
theorem dX7_ticks_96 : decode cX7_ticks 96 = .ok (.iload_n 3, 1) := by decide +kernel
theorem dX7_ticks_97 : decode cX7_ticks 97 = .ok (.aload_n 0, 1) := by decide +kernel
theorem dX7_ticks_98 : decode cX7_ticks 98 = .ok (.getfield 119, 3) := by decide +kernel
theorem dX7_ticks_101 : decode cX7_ticks 101 = .ok (.if_icmp .ge 14, 3) := by decide +kernel
theorem dX7_ticks_104 : decode cX7_ticks 104 = .ok (.aload_n 0, 1) := by decide +kernel
theorem dX7_ticks_105 : decode cX7_ticks 105 = .ok (.iload_n 3, 1) := by decide +kernel
theorem dX7_ticks_106 : decode cX7_ticks 106 = .ok (.invokevirtual 198, 3) := by decide +kernel
theorem dX7_ticks_109 : decode cX7_ticks 109 = .ok (.iinc 3 1, 3) := by decide +kernel
theorem dX7_ticks_112 : decode cX7_ticks 112 = .ok (.goto (-16), 3) := by decide +kernel
theorem dX7_ticks_115 : decode cX7_ticks 115 = .ok (.aload_n 0, 1) := by decide +kernel
theorem dX7_ticks_116 : decode cX7_ticks 116 = .ok (.invokevirtual 201, 3) := by decide +kernel
theorem dX7_ticks_119 : decode cX7_ticks 119 = .ok (.aload_n 0, 1) := by decide +kernel
theorem dX7_ticks_120 : decode cX7_ticks 120 = .ok (.dup, 1) := by decide +kernel
theorem dX7_ticks_121 : decode cX7_ticks 121 = .ok (.getfield 131, 3) := by decide +kernel
theorem dX7_ticks_124 : decode cX7_ticks 124 = .ok (.iconst 1, 1) := by decide +kernel
theorem dX7_ticks_125 : decode cX7_ticks 125 = .ok (.iadd, 1) := by decide +kernel
