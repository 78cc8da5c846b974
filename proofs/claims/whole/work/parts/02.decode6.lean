theorem dX7_ticks_126 : decode cX7_ticks 126 = .ok (.putfield 131, 3) := by decide +kernel
theorem dX7_ticks_129 : decode cX7_ticks 129 = .ok (.iinc 2 1, 3) := by decide +kernel
theorem dX7_ticks_132 : decode cX7_ticks 132 = .ok (.goto (-106), 3) := by decide +kernel
theorem dX7_ticks_135 : decode cX7_ticks 135 = .ok (.aload_n 0, 1) := by decide +kernel
theorem dX7_ticks_136 : decode cX7_ticks 136 = .ok (.getfield 131, 3) := by decide +kernel
theorem dX7_ticks_139 : decode cX7_ticks 139 = .ok (.ireturn, 1) := by decide +kernel
theorem dX7_headOf_0 : decode cX7_headOf 0 = .ok (.iload_n 2, 1) := by decide +kernel
theorem dX7_headOf_1 : decode cX7_headOf 1 = .ok (.istore_n 3, 1) := by decide +kernel
theorem dX7_headOf_2 : decode cX7_headOf 2 = .ok (.bipush 11, 2) := by decide +kernel
theorem dX7_headOf_4 : decode cX7_headOf 4 = .ok (.istore 4, 2) := by decide +kernel
theorem dX7_headOf_6 : decode cX7_headOf 6 = .ok (.iload 4, 2) := by decide +kernel
theorem dX7_headOf_8 : decode cX7_headOf 8 = .ok (.ifCond .lt 41, 3) := by decide +kernel
theorem dX7_headOf_11 : decode cX7_headOf 11 = .ok (.iload_n 2, 1) := by decide +kernel
theorem dX7_headOf_12 : decode cX7_headOf 12 = .ok (.ifCond .lt 37, 3) := by decide +kernel
theorem dX7_headOf_15 : decode cX7_headOf 15 = .ok (.aload_n 0, 1) := by decide +kernel
theorem dX7_headOf_16 : decode cX7_headOf 16 = .ok (.getfield 41, 3) := by decide +kernel
theorem dX7_headOf_19 : decode cX7_headOf 19 = .ok (.bipush 12, 2) := by decide +kernel
theorem dX7_headOf_21 : decode cX7_headOf 21 = .ok (.iload_n 1, 1) := by decide +kernel
theorem dX7_headOf_22 : decode cX7_headOf 22 = .ok (.imul, 1) := by decide +kernel
theorem dX7_headOf_23 : decode cX7_headOf 23 = .ok (.iload 4, 2) := by decide +kernel
theorem dX7_headOf_25 : decode cX7_headOf 25 = .ok (.iadd, 1) := by decide +kernel
theorem dX7_headOf_26 : decode cX7_headOf 26 = .ok (.iaload, 1) := by decide +kernel
theorem dX7_headOf_27 : decode cX7_headOf 27 = .ok (.ifCond .ne 6, 3) := by decide +kernel
theorem dX7_headOf_30 : decode cX7_headOf 30 = .ok (.goto 13, 3) := by decide +kernel
theorem dX7_headOf_33 : decode cX7_headOf 33 = .ok (.iload_n 3, 1) := by decide +kernel
theorem dX7_headOf_34 : decode cX7_headOf 34 = .ok (.ifCond .ne 6, 3) := by decide +kernel
theorem dX7_headOf_37 : decode cX7_headOf 37 = .ok (.iload 4, 2) := by decide +kernel
theorem dX7_headOf_39 : decode cX7_headOf 39 = .ok (.ireturn, 1) := by decide +kernel
theorem dX7_headOf_40 : decode cX7_headOf 40 = .ok (.iinc 3 (-1), 3) := by decide +kernel
theorem dX7_headOf_43 : decode cX7_headOf 43 = .ok (.iinc 4 (-1), 3) := by decide +kernel
theorem dX7_headOf_46 : decode cX7_headOf 46 = .ok (.goto (-40), 3) := by decide +kernel
theorem dX7_headOf_49 : decode cX7_headOf 49 = .ok (.iconst (-1), 1) := by decide +kernel
theorem dX7_headOf_50 : decode cX7_headOf 50 = .ok (.ireturn, 1) := by decide +kernel
set_option maxRecDepth 20000 in
theorem ggX7_machineOf_X7_isMachine : GoodIn wsX7_machineOf wsX7_isMachine := goodIn_r _ [21, 22, 23, 24, 20, 25, 38, 39, 40, 41, 42, 43, 44, 45, 46, 47, 48, 49, 50, 51, 52, 53, 54, 55, 56, 57, 58, 59, 60, 61, 62, 63, 64, 65, 66, 67, 68, 69, 70, 71, 72, 73, 74, 75, 76, 77, 78] (by decide +kernel) (by decide +kernel)
set_option maxRecDepth 20000 in
theorem gX7_machineOf_X7_isMachine : GoodIn wsX7_machineOf (wsV RX7 138 RX7 yX7_isMachine wsX7_isMachine) := goodIn_app (goodIn_of _ (by decide +kernel)) ggX7_machineOf_X7_isMachine
set_option maxRecDepth 20000 in
theorem ggX7_machineOf_X7_headOf : GoodIn wsX7_machineOf wsX7_headOf := goodIn_r _ [29, 1, 38, 39, 40, 41, 42, 43, 44, 45, 46, 47, 48, 49, 50, 51, 52, 53, 54, 55, 56, 57, 58, 59, 60, 61, 62, 63, 64, 65, 66, 67, 68, 69, 70, 71, 72, 73, 74, 75, 76, 77, 78] (by decide +kernel) (by decide +kernel)
set_option maxRecDepth 20000 in
theorem gX7_machineOf_X7_headOf : GoodIn wsX7_machineOf (wsV RX7 204 RX7 yX7_headOf wsX7_headOf) := goodIn_app (goodIn_of _ (by decide +kernel)) ggX7_machineOf_X7_headOf
set_option maxRecDepth 20000 in
theorem ggX7_machineOf_X7_rank : GoodIn wsX7_machineOf wsX7_rank := goodIn_r _ [33, 1, 38, 39, 40, 41, 42, 43, 44, 45, 46, 47, 48, 49, 50, 51, 52, 53, 54, 55, 56, 57, 58, 59, 60, 61, 62, 63, 64, 65, 66, 67, 68, 69, 70, 71, 72, 73, 74, 75, 76, 77, 78] (by decide +kernel) (by decide +kernel)
set_option maxRecDepth 20000 in
theorem gX7_machineOf_X7_rank : GoodIn wsX7_machineOf (wsV RX7 145 RX7 yX7_rank wsX7_rank) := goodIn_app (goodIn_of _ (by decide +kernel)) ggX7_machineOf_X7_rank
set_option maxRecDepth 20000 in
theorem ggX7_machineOf_X7_isWhole : GoodIn wsX7_machineOf wsX7_isWhole := goodIn_r _ [37, 2, 3, 30, 31, 32, 20, 33, 1, 38, 39, 40, 41, 42, 43, 44, 45, 46, 47, 48, 49, 50, 51, 52, 53, 54, 55, 56, 57, 58, 59, 60, 61, 62, 63, 64, 65, 66, 67, 68, 69, 70, 71, 72, 73, 74, 75, 76, 77, 78] (by decide +kernel) (by decide +kernel)
set_option maxRecDepth 20000 in
theorem gX7_machineOf_X7_isWhole : GoodIn wsX7_machineOf (wsV RX7 178 RX7 yX7_isWhole wsX7_isWhole) := goodIn_app (goodIn_of _ (by decide +kernel)) ggX7_machineOf_X7_isWhole
theorem dX7_machineOf_0 : decode cX7_machineOf 0 = .ok (.aload_n 0, 1) := by decide +kernel
theorem dX7_machineOf_1 : decode cX7_machineOf 1 = .ok (.iload_n 1, 1) := by decide +kernel
theorem dX7_machineOf_2 : decode cX7_machineOf 2 = .ok (.invokevirtual 138, 3) := by decide +kernel
theorem dX7_machineOf_5 : decode cX7_machineOf 5 = .ok (.ifCond .ne 5, 3) := by decide +kernel
theorem dX7_machineOf_8 : decode cX7_machineOf 8 = .ok (.iconst (-1), 1) := by decide +kernel
theorem dX7_machineOf_9 : decode cX7_machineOf 9 = .ok (.ireturn, 1) := by decide +kernel
theorem dX7_machineOf_10 : decode cX7_machineOf 10 = .ok (.iload_n 2, 1) := by decide +kernel
theorem dX7_machineOf_11 : decode cX7_machineOf 11 = .ok (.bipush 100, 2) := by decide +kernel
theorem dX7_machineOf_13 : decode cX7_machineOf 13 = .ok (.if_icmp .lt 33, 3) := by decide +kernel
theorem dX7_machineOf_16 : decode cX7_machineOf 16 = .ok (.aload_n 0, 1) := by decide +kernel
theorem dX7_machineOf_17 : decode cX7_machineOf 17 = .ok (.iload_n 1, 1) := by decide +kernel
theorem dX7_machineOf_18 : decode cX7_machineOf 18 = .ok (.iload_n 2, 1) := by decide +kernel
theorem dX7_machineOf_19 : decode cX7_machineOf 19 = .ok (.bipush 100, 2) := by decide +kernel
theorem dX7_machineOf_21 : decode cX7_machineOf 21 = .ok (.isub, 1) := by decide +kernel
theorem dX7_machineOf_22 : decode cX7_machineOf 22 = .ok (.invokevirtual 204, 3) := by decide +kernel
theorem dX7_machineOf_25 : decode cX7_machineOf 25 = .ok (.istore_n 3, 1) := by decide +kernel
theorem dX7_machineOf_26 : decode cX7_machineOf 26 = .ok (.iload_n 3, 1) := by decide +kernel
theorem dX7_machineOf_27 : decode cX7_machineOf 27 = .ok (.ifCond .ge 7, 3) := by decide +kernel
theorem dX7_machineOf_30 : decode cX7_machineOf 30 = .ok (.iconst (-1), 1) := by decide +kernel
theorem dX7_machineOf_31 : decode cX7_machineOf 31 = .ok (.goto 14, 3) := by decide +kernel
theorem dX7_machineOf_34 : decode cX7_machineOf 34 = .ok (.aload_n 0, 1) := by decide +kernel
theorem dX7_machineOf_35 : decode cX7_machineOf 35 = .ok (.getfield 41, 3) := by decide +kernel
theorem dX7_machineOf_38 : decode cX7_machineOf 38 = .ok (.bipush 12, 2) := by decide +kernel
theorem dX7_machineOf_40 : decode cX7_machineOf 40 = .ok (.iload_n 1, 1) := by decide +kernel
theorem dX7_machineOf_41 : decode cX7_machineOf 41 = .ok (.imul, 1) := by decide +kernel
theorem dX7_machineOf_42 : decode cX7_machineOf 42 = .ok (.iload_n 3, 1) := by decide +kernel
theorem dX7_machineOf_43 : decode cX7_machineOf 43 = .ok (.iadd, 1) := by decide +kernel
theorem dX7_machineOf_44 : decode cX7_machineOf 44 = .ok (.iaload, 1) := by decide +kernel
theorem dX7_machineOf_45 : decode cX7_machineOf 45 = .ok (.ireturn, 1) := by decide +kernel
theorem dX7_machineOf_46 : decode cX7_machineOf 46 = .ok (.iload_n 2, 1) := by decide +kernel
theorem dX7_machineOf_47 : decode cX7_machineOf 47 = .ok (.tableswitch 206 0 16 #[81, 88, 95, 101, 115, 122, 129, 136, 143, 150, 157, 164, 171, 178, 185, 192, 199], 81) := by decide +kernel
theorem dX7_machineOf_128 : decode cX7_machineOf 128 = .ok (.aload_n 0, 1) := by decide +kernel
theorem dX7_machineOf_129 : decode cX7_machineOf 129 = .ok (.getfield 32, 3) := by decide +kernel
theorem dX7_machineOf_132 : decode cX7_machineOf 132 = .ok (.iload_n 1, 1) := by decide +kernel
theorem dX7_machineOf_133 : decode cX7_machineOf 133 = .ok (.iaload, 1) := by decide +kernel
theorem dX7_machineOf_134 : decode cX7_machineOf 134 = .ok (.ireturn, 1) := by decide +kernel
theorem dX7_machineOf_135 : decode cX7_machineOf 135 = .ok (.aload_n 0, 1) := by decide +kernel
theorem dX7_machineOf_136 : decode cX7_machineOf 136 = .ok (.getfield 35, 3) := by decide +kernel
theorem dX7_machineOf_139 : decode cX7_machineOf 139 = .ok (.iload_n 1, 1) := by decide +kernel
theorem dX7_machineOf_140 : decode cX7_machineOf 140 = .ok (.iaload, 1) := by decide +kernel
theorem dX7_machineOf_141 : decode cX7_machineOf 141 = .ok (.ireturn, 1) := by decide +kernel
theorem dX7_machineOf_142 : decode cX7_machineOf 142 = .ok (.aload_n 0, 1) := by decide +kernel
theorem dX7_machineOf_143 : decode cX7_machineOf 143 = .ok (.iload_n 1, 1) := by decide +kernel
theorem dX7_machineOf_144 : decode cX7_machineOf 144 = .ok (.invokevirtual 145, 3) := by decide +kernel
theorem dX7_machineOf_147 : decode cX7_machineOf 147 = .ok (.ireturn, 1) := by decide +kernel
theorem dX7_machineOf_148 : decode cX7_machineOf 148 = .ok (.aload_n 0, 1) := by decide +kernel
theorem dX7_machineOf_149 : decode cX7_machineOf 149 = .ok (.iload_n 1, 1) := by decide +kernel
theorem dX7_machineOf_150 : decode cX7_machineOf 150 = .ok (.invokevirtual 178, 3) := by decide +kernel
theorem dX7_machineOf_153 : decode cX7_machineOf 153 = .ok (.ifCond .eq 7, 3) := by decide +kernel
theorem dX7_machineOf_156 : decode cX7_machineOf 156 = .ok (.iconst 1, 1) := by decide +kernel
theorem dX7_machineOf_157 : decode cX7_machineOf 157 = .ok (.goto 4, 3) := by decide +kernel
theorem dX7_machineOf_160 : decode cX7_machineOf 160 = .ok (.iconst 0, 1) := by decide +kernel
theorem dX7_machineOf_161 : decode cX7_machineOf 161 = .ok (.ireturn, 1) := by decide +kernel
theorem dX7_machineOf_162 : decode cX7_machineOf 162 = .ok (.aload_n 0, 1) := by decide +kernel
theorem dX7_machineOf_163 : decode cX7_machineOf 163 = .ok (.getfield 47, 3) := by decide +kernel
theorem dX7_machineOf_166 : decode cX7_machineOf 166 = .ok (.iload_n 1, 1) := by decide +kernel
theorem dX7_machineOf_167 : decode cX7_machineOf 167 = .ok (.iaload, 1) := by decide +kernel
theorem dX7_machineOf_168 : decode cX7_machineOf 168 = .ok (.ireturn, 1) := by decide +kernel
theorem dX7_machineOf_169 : decode cX7_machineOf 169 = .ok (.aload_n 0, 1) := by decide +kernel
theorem dX7_machineOf_170 : decode cX7_machineOf 170 = .ok (.getfield 50, 3) := by decide +kernel
theorem dX7_machineOf_173 : decode cX7_machineOf 173 = .ok (.iload_n 1, 1) := by decide +kernel
theorem dX7_machineOf_174 : decode cX7_machineOf 174 = .ok (.iaload, 1) := by decide +kernel
theorem dX7_machineOf_175 : decode cX7_machineOf 175 = .ok (.ireturn, 1) := by decide +kernel
theorem dX7_machineOf_176 : decode cX7_machineOf 176 = .ok (.aload_n 0, 1) := by decide +kernel
theorem dX7_machineOf_177 : decode cX7_machineOf 177 = .ok (.getfield 53, 3) := by decide +kernel
theorem dX7_machineOf_180 : decode cX7_machineOf 180 = .ok (.iload_n 1, 1) := by decide +kernel
theorem dX7_machineOf_181 : decode cX7_machineOf 181 = .ok (.iaload, 1) := by decide +kernel
theorem dX7_machineOf_182 : decode cX7_machineOf 182 = .ok (.ireturn, 1) := by decide +kernel
theorem dX7_machineOf_183 : decode cX7_machineOf 183 = .ok (.aload_n 0, 1) := by decide +kernel
theorem dX7_machineOf_184 : decode cX7_machineOf 184 = .ok (.getfield 56, 3) := by decide +kernel
theorem dX7_machineOf_187 : decode cX7_machineOf 187 = .ok (.iload_n 1, 1) := by decide +kernel
theorem dX7_machineOf_188 : decode cX7_machineOf 188 = .ok (.iaload, 1) := by decide +kernel
theorem dX7_machineOf_189 : decode cX7_machineOf 189 = .ok (.ireturn, 1) := by decide +kernel
theorem dX7_machineOf_190 : decode cX7_machineOf 190 = .ok (.aload_n 0, 1) := by decide +kernel
theorem dX7_machineOf_191 : decode cX7_machineOf 191 = .ok (.getfield 59, 3) := by decide +kernel
theorem dX7_machineOf_194 : decode cX7_machineOf 194 = .ok (.iload_n 1, 1) := by decide +kernel
theorem dX7_machineOf_195 : decode cX7_machineOf 195 = .ok (.iaload, 1) := by decide +kernel
theorem dX7_machineOf_196 : decode cX7_machineOf 196 = .ok (.ireturn, 1) := by decide +kernel
theorem dX7_machineOf_197 : decode cX7_machineOf 197 = .ok (.aload_n 0, 1) := by decide +kernel
theorem dX7_machineOf_198 : decode cX7_machineOf 198 = .ok (.getfield 62, 3) := by decide +kernel
theorem dX7_machineOf_201 : decode cX7_machineOf 201 = .ok (.iload_n 1, 1) := by decide +kernel
theorem dX7_machineOf_202 : decode cX7_machineOf 202 = .ok (.iaload, 1) := by decide +kernel
theorem dX7_machineOf_203 : decode cX7_machineOf 203 = .ok (.ireturn, 1) := by decide +kernel
theorem dX7_machineOf_204 : decode cX7_machineOf 204 = .ok (.aload_n 0, 1) := by decide +kernel
theorem dX7_machineOf_205 : decode cX7_machineOf 205 = .ok (.getfield 65, 3) := by decide +kernel
theorem dX7_machineOf_208 : decode cX7_machineOf 208 = .ok (.iload_n 1, 1) := by decide +kernel
theorem dX7_machineOf_209 : decode cX7_machineOf 209 = .ok (.iaload, 1) := by decide +kernel
theorem dX7_machineOf_210 : decode cX7_machineOf 210 = .ok (.ireturn, 1) := by decide +kernel
theorem dX7_machineOf_211 : decode cX7_machineOf 211 = .ok (.aload_n 0, 1) := by decide +kernel
theorem dX7_machineOf_212 : decode cX7_machineOf 212 = .ok (.getfield 68, 3) := by decide +kernel
theorem dX7_machineOf_215 : decode cX7_machineOf 215 = .ok (.iload_n 1, 1) := by decide +kernel
theorem dX7_machineOf_216 : decode cX7_machineOf 216 = .ok (.iaload, 1) := by decide +kernel
theorem dX7_machineOf_217 : decode cX7_machineOf 217 = .ok (.ireturn, 1) := by decide +kernel
theorem dX7_machineOf_218 : decode cX7_machineOf 218 = .ok (.aload_n 0, 1) := by decide +kernel
theorem dX7_machineOf_219 : decode cX7_machineOf 219 = .ok (.getfield 71, 3) := by decide +kernel
theorem dX7_machineOf_222 : decode cX7_machineOf 222 = .ok (.iload_n 1, 1) := by decide +kernel
theorem dX7_machineOf_223 : decode cX7_machineOf 223 = .ok (.iaload, 1) := by decide +kernel
theorem dX7_machineOf_224 : decode cX7_machineOf 224 = .ok (.ireturn, 1) := by decide +kernel
theorem dX7_machineOf_225 : decode cX7_machineOf 225 = .ok (.aload_n 0, 1) := by decide +kernel
theorem dX7_machineOf_226 : decode cX7_machineOf 226 = .ok (.getfield 74, 3) := by decide +kernel
theorem dX7_machineOf_229 : decode cX7_machineOf 229 = .ok (.iload_n 1, 1) := by decide +kernel
theorem dX7_machineOf_230 : decode cX7_machineOf 230 = .ok (.iaload, 1) := by decide +kernel
theorem dX7_machineOf_231 : decode cX7_machineOf 231 = .ok (.ireturn, 1) := by decide +kernel
theorem dX7_machineOf_232 : decode cX7_machineOf 232 = .ok (.aload_n 0, 1) := by decide +kernel
theorem dX7_machineOf_233 : decode cX7_machineOf 233 = .ok (.getfield 77, 3) := by decide +kernel
theorem dX7_machineOf_236 : decode cX7_machineOf 236 = .ok (.iload_n 1, 1) := by decide +kernel
theorem dX7_machineOf_237 : decode cX7_machineOf 237 = .ok (.iaload, 1) := by decide +kernel
theorem dX7_machineOf_238 : decode cX7_machineOf 238 = .ok (.ireturn, 1) := by decide +kernel
theorem dX7_machineOf_239 : decode cX7_machineOf 239 = .ok (.aload_n 0, 1) := by decide +kernel
theorem dX7_machineOf_240 : decode cX7_machineOf 240 = .ok (.getfield 80, 3) := by decide +kernel
theorem dX7_machineOf_243 : decode cX7_machineOf 243 = .ok (.iload_n 1, 1) := by decide +kernel
theorem dX7_machineOf_244 : decode cX7_machineOf 244 = .ok (.iaload, 1) := by decide +kernel
theorem dX7_machineOf_245 : decode cX7_machineOf 245 = .ok (.ireturn, 1) := by decide +kernel
theorem dX7_machineOf_246 : decode cX7_machineOf 246 = .ok (.aload_n 0, 1) := by decide +kernel
theorem dX7_machineOf_247 : decode cX7_machineOf 247 = .ok (.getfield 83, 3) := by decide +kernel
theorem dX7_machineOf_250 : decode cX7_machineOf 250 = .ok (.iload_n 1, 1) := by decide +kernel
theorem dX7_machineOf_251 : decode cX7_machineOf 251 = .ok (.iaload, 1) := by decide +kernel
theorem dX7_machineOf_252 : decode cX7_machineOf 252 = .ok (.ireturn, 1) := by decide +kernel
theorem dX7_machineOf_253 : decode cX7_machineOf 253 = .ok (.iconst (-1), 1) := by decide +kernel
theorem dX7_machineOf_254 : decode cX7_machineOf 254 = .ok (.ireturn, 1) := by decide +kernel
set_option maxRecDepth 20000 in
theorem ggX7_data_X7_isMachine : GoodIn wsX7_data wsX7_isMachine := goodIn_r _ [6, 7, 8, 9, 5, 10, 16, 17, 18, 19, 20, 21, 22, 23, 24, 25, 26, 27, 28, 29, 30, 31, 32, 33, 34, 35, 36, 37, 38, 39, 40, 41, 42, 43, 44, 45, 46, 47, 48, 49, 50, 51, 52, 53, 54, 55, 56] (by decide +kernel) (by decide +kernel)
set_option maxRecDepth 20000 in
theorem gX7_data_X7_isMachine : GoodIn wsX7_data (wsV RX7 138 RX7 yX7_isMachine wsX7_isMachine) := goodIn_app (goodIn_of _ (by decide +kernel)) ggX7_data_X7_isMachine
set_option maxRecDepth 20000 in
theorem ggX7_data_X7_headOf : GoodIn wsX7_data wsX7_headOf := goodIn_r _ [14, 15, 16, 17, 18, 19, 20, 21, 22, 23, 24, 25, 26, 27, 28, 29, 30, 31, 32, 33, 34, 35, 36, 37, 38, 39, 40, 41, 42, 43, 44, 45, 46, 47, 48, 49, 50, 51, 52, 53, 54, 55, 56] (by decide +kernel) (by decide +kernel)
set_option maxRecDepth 20000 in
theorem gX7_data_X7_headOf : GoodIn wsX7_data (wsV RX7 204 RX7 yX7_headOf wsX7_headOf) := goodIn_app (goodIn_of _ (by decide +kernel)) ggX7_data_X7_headOf
theorem dX7_data_0 : decode cX7_data 0 = .ok (.aload_n 0, 1) := by decide +kernel
theorem dX7_data_1 : decode cX7_data 1 = .ok (.iload_n 1, 1) := by decide +kernel
theorem dX7_data_2 : decode cX7_data 2 = .ok (.invokevirtual 138, 3) := by decide +kernel
theorem dX7_data_5 : decode cX7_data 5 = .ok (.ifCond .eq 12, 3) := by decide +kernel
theorem dX7_data_8 : decode cX7_data 8 = .ok (.aload_n 0, 1) := by decide +kernel
theorem dX7_data_9 : decode cX7_data 9 = .ok (.iload_n 1, 1) := by decide +kernel
theorem dX7_data_10 : decode cX7_data 10 = .ok (.iload_n 2, 1) := by decide +kernel
theorem dX7_data_11 : decode cX7_data 11 = .ok (.invokevirtual 204, 3) := by decide +kernel
theorem dX7_data_14 : decode cX7_data 14 = .ok (.goto 4, 3) := by decide +kernel
theorem dX7_data_17 : decode cX7_data 17 = .ok (.iconst (-1), 1) := by decide +kernel
theorem dX7_data_18 : decode cX7_data 18 = .ok (.istore_n 3, 1) := by decide +kernel
theorem dX7_data_19 : decode cX7_data 19 = .ok (.iload_n 3, 1) := by decide +kernel
theorem dX7_data_20 : decode cX7_data 20 = .ok (.ifCond .ge 7, 3) := by decide +kernel
theorem dX7_data_23 : decode cX7_data 23 = .ok (.iconst 0, 1) := by decide +kernel
theorem dX7_data_24 : decode cX7_data 24 = .ok (.goto 14, 3) := by decide +kernel
theorem dX7_data_27 : decode cX7_data 27 = .ok (.aload_n 0, 1) := by decide +kernel
theorem dX7_data_28 : decode cX7_data 28 = .ok (.getfield 44, 3) := by decide +kernel
theorem dX7_data_31 : decode cX7_data 31 = .ok (.bipush 12, 2) := by decide +kernel
theorem dX7_data_33 : decode cX7_data 33 = .ok (.iload_n 1, 1) := by decide +kernel
theorem dX7_data_34 : decode cX7_data 34 = .ok (.imul, 1) := by decide +kernel
theorem dX7_data_35 : decode cX7_data 35 = .ok (.iload_n 3, 1) := by decide +kernel
theorem dX7_data_36 : decode cX7_data 36 = .ok (.iadd, 1) := by decide +kernel
theorem dX7_data_37 : decode cX7_data 37 = .ok (.iaload, 1) := by decide +kernel
theorem dX7_data_38 : decode cX7_data 38 = .ok (.ireturn, 1) := by decide +kernel
set_option maxRecDepth 20000 in
theorem ggX7_sum_X7_isMachine : GoodIn wsX7_sum wsX7_isMachine := goodIn_r _ [6, 7, 8, 9, 5, 10, 11, 12, 13, 14, 15, 16, 17, 18, 19, 20, 21, 22, 23, 24, 25, 26, 27, 28, 29, 30, 31, 32, 33, 34, 35, 36, 37, 38, 39, 40, 41, 42, 43, 44, 45, 46, 47, 48, 49, 50, 51] (by decide +kernel) (by decide +kernel)
set_option maxRecDepth 20000 in
theorem gX7_sum_X7_isMachine : GoodIn wsX7_sum (wsV RX7 138 RX7 yX7_isMachine wsX7_isMachine) := goodIn_app (goodIn_of _ (by decide +kernel)) ggX7_sum_X7_isMachine
theorem dX7_sum_0 : decode cX7_sum 0 = .ok (.aload_n 0, 1) := by decide +kernel
theorem dX7_sum_1 : decode cX7_sum 1 = .ok (.iload_n 1, 1) := by decide +kernel
theorem dX7_sum_2 : decode cX7_sum 2 = .ok (.invokevirtual 138, 3) := by decide +kernel
theorem dX7_sum_5 : decode cX7_sum 5 = .ok (.ifCond .eq 12, 3) := by decide +kernel
theorem dX7_sum_8 : decode cX7_sum 8 = .ok (.aload_n 0, 1) := by decide +kernel
theorem dX7_sum_9 : decode cX7_sum 9 = .ok (.getfield 38, 3) := by decide +kernel
theorem dX7_sum_12 : decode cX7_sum 12 = .ok (.iload_n 1, 1) := by decide +kernel
theorem dX7_sum_13 : decode cX7_sum 13 = .ok (.iaload, 1) := by decide +kernel
theorem dX7_sum_14 : decode cX7_sum 14 = .ok (.goto 4, 3) := by decide +kernel
theorem dX7_sum_17 : decode cX7_sum 17 = .ok (.iconst 0, 1) := by decide +kernel
theorem dX7_sum_18 : decode cX7_sum 18 = .ok (.ireturn, 1) := by decide +kernel
set_option maxRecDepth 20000 in
theorem ggX7_about_X7_greatestKept : GoodIn wsX7_about wsX7_greatestKept := goodIn_r _ [12, 1, 13, 14, 15, 16, 17, 18, 19, 20, 21, 22, 23, 24, 25, 26, 27, 28, 29, 30, 31, 32, 33, 34, 35, 36, 37, 38, 39, 40, 41, 42, 43, 44, 45, 46, 47, 48, 49, 50, 51, 52, 53, 54] (by decide +kernel) (by decide +kernel)
set_option maxRecDepth 20000 in
theorem gX7_about_X7_greatestKept : GoodIn wsX7_about (wsV RX7 181 RX7 yX7_greatestKept wsX7_greatestKept) := goodIn_app (goodIn_of _ (by decide +kernel)) ggX7_about_X7_greatestKept
theorem dX7_about_0 : decode cX7_about 0 = .ok (.aload_n 0, 1) := by decide +kernel
theorem dX7_about_1 : decode cX7_about 1 = .ok (.invokevirtual 181, 3) := by decide +kernel
theorem dX7_about_4 : decode cX7_about 4 = .ok (.istore_n 2, 1) := by decide +kernel
theorem dX7_about_5 : decode cX7_about 5 = .ok (.iconst 0, 1) := by decide +kernel
theorem dX7_about_6 : decode cX7_about 6 = .ok (.istore_n 3, 1) := by decide +kernel
theorem dX7_about_7 : decode cX7_about 7 = .ok (.iconst 0, 1) := by decide +kernel
theorem dX7_about_8 : decode cX7_about 8 = .ok (.istore 4, 2) := by decide +kernel
theorem dX7_about_10 : decode cX7_about 10 = .ok (.iload 4, 2) := by decide +kernel
theorem dX7_about_12 : decode cX7_about 12 = .ok (.aload_n 0, 1) := by decide +kernel
theorem dX7_about_13 : decode cX7_about 13 = .ok (.getfield 119, 3) := by decide +kernel
theorem dX7_about_16 : decode cX7_about 16 = .ok (.if_icmp .ge 32, 3) := by decide +kernel
theorem dX7_about_19 : decode cX7_about 19 = .ok (.iload_n 3, 1) := by decide +kernel
theorem dX7_about_20 : decode cX7_about 20 = .ok (.iload_n 2, 1) := by decide +kernel
theorem dX7_about_21 : decode cX7_about 21 = .ok (.ifCond .le 18, 3) := by decide +kernel
theorem dX7_about_24 : decode cX7_about 24 = .ok (.aload_n 0, 1) := by decide +kernel
theorem dX7_about_25 : decode cX7_about 25 = .ok (.getfield 47, 3) := by decide +kernel
theorem dX7_about_28 : decode cX7_about 28 = .ok (.iload 4, 2) := by decide +kernel
theorem dX7_about_30 : decode cX7_about 30 = .ok (.iaload, 1) := by decide +kernel
theorem dX7_about_31 : decode cX7_about 31 = .ok (.iload_n 2, 1) := by decide +kernel
theorem dX7_about_32 : decode cX7_about 32 = .ok (.if_icmp .ne 7, 3) := by decide +kernel
theorem dX7_about_35 : decode cX7_about 35 = .ok (.iconst 1, 1) := by decide +kernel
theorem dX7_about_36 : decode cX7_about 36 = .ok (.goto 4, 3) := by decide +kernel
theorem dX7_about_39 : decode cX7_about 39 = .ok (.iconst 0, 1) := by decide +kernel
theorem dX7_about_40 : decode cX7_about 40 = .ok (.iadd, 1) := by decide +kernel
theorem dX7_about_41 : decode cX7_about 41 = .ok (.istore_n 3, 1) := by decide +kernel
theorem dX7_about_42 : decode cX7_about 42 = .ok (.iinc 4 1, 3) := by decide +kernel
theorem dX7_about_45 : decode cX7_about 45 = .ok (.goto (-35), 3) := by decide +kernel
theorem dX7_about_48 : decode cX7_about 48 = .ok (.iload_n 1, 1) := by decide +kernel
theorem dX7_about_49 : decode cX7_about 49 = .ok (.tableswitch 78 0 5 #[39, 44, 49, 54, 56, 61], 39) := by decide +kernel
theorem dX7_about_88 : decode cX7_about 88 = .ok (.aload_n 0, 1) := by decide +kernel
theorem dX7_about_89 : decode cX7_about 89 = .ok (.getfield 119, 3) := by decide +kernel
theorem dX7_about_92 : decode cX7_about 92 = .ok (.ireturn, 1) := by decide +kernel
theorem dX7_about_93 : decode cX7_about 93 = .ok (.aload_n 0, 1) := by decide +kernel
theorem dX7_about_94 : decode cX7_about 94 = .ok (.getfield 131, 3) := by decide +kernel
theorem dX7_about_97 : decode cX7_about 97 = .ok (.ireturn, 1) := by decide +kernel
theorem dX7_about_98 : decode cX7_about 98 = .ok (.aload_n 0, 1) := by decide +kernel
theorem dX7_about_99 : decode cX7_about 99 = .ok (.getfield 166, 3) := by decide +kernel
theorem dX7_about_102 : decode cX7_about 102 = .ok (.ireturn, 1) := by decide +kernel
theorem dX7_about_103 : decode cX7_about 103 = .ok (.iload_n 3, 1) := by decide +kernel
theorem dX7_about_104 : decode cX7_about 104 = .ok (.ireturn, 1) := by decide +kernel
theorem dX7_about_105 : decode cX7_about 105 = .ok (.aload_n 0, 1) := by decide +kernel
theorem dX7_about_106 : decode cX7_about 106 = .ok (.getfield 142, 3) := by decide +kernel
theorem dX7_about_109 : decode cX7_about 109 = .ok (.ireturn, 1) := by decide +kernel
theorem dX7_about_110 : decode cX7_about 110 = .ok (.iload_n 2, 1) := by decide +kernel
theorem dX7_about_111 : decode cX7_about 111 = .ok (.aload_n 0, 1) := by decide +kernel
theorem dX7_about_112 : decode cX7_about 112 = .ok (.getfield 185, 3) := by decide +kernel
theorem dX7_about_115 : decode cX7_about 115 = .ok (.if_icmp .ne 10, 3) := by decide +kernel
theorem dX7_about_118 : decode cX7_about 118 = .ok (.aload_n 0, 1) := by decide +kernel
theorem dX7_about_119 : decode cX7_about 119 = .ok (.getfield 86, 3) := by decide +kernel
theorem dX7_about_122 : decode cX7_about 122 = .ok (.goto 4, 3) := by decide +kernel
theorem dX7_about_125 : decode cX7_about 125 = .ok (.iconst (-1), 1) := by decide +kernel
theorem dX7_about_126 : decode cX7_about 126 = .ok (.ireturn, 1) := by decide +kernel
theorem dX7_about_127 : decode cX7_about 127 = .ok (.iconst (-1), 1) := by decide +kernel
theorem dX7_about_128 : decode cX7_about 128 = .ok (.ireturn, 1) := by decide +kernel
theorem dJ9_min_7cf53_0 : decode cJ9_min_7cf53 0 = .ok (.iload_n 0, 1) := by decide +kernel
theorem dJ9_min_7cf53_1 : decode cJ9_min_7cf53 1 = .ok (.iload_n 1, 1) := by decide +kernel
theorem dJ9_min_7cf53_2 : decode cJ9_min_7cf53 2 = .ok (.if_icmp .gt 7, 3) := by decide +kernel
theorem dJ9_min_7cf53_5 : decode cJ9_min_7cf53 5 = .ok (.iload_n 0, 1) := by decide +kernel
theorem dJ9_min_7cf53_6 : decode cJ9_min_7cf53 6 = .ok (.goto 4, 3) := by decide +kernel
theorem dJ9_min_7cf53_9 : decode cJ9_min_7cf53 9 = .ok (.iload_n 1, 1) := by decide +kernel
theorem dJ9_min_7cf53_10 : decode cJ9_min_7cf53 10 = .ok (.ireturn, 1) := by decide +kernel
theorem dJ7_fill_53178_0 : decode cJ7_fill_53178 0 = .ok (.iconst 0, 1) := by decide +kernel
theorem dJ7_fill_53178_1 : decode cJ7_fill_53178 1 = .ok (.istore_n 2, 1) := by decide +kernel
theorem dJ7_fill_53178_2 : decode cJ7_fill_53178 2 = .ok (.aload_n 0, 1) := by decide +kernel
theorem dJ7_fill_53178_3 : decode cJ7_fill_53178 3 = .ok (.arraylength, 1) := by decide +kernel
theorem dJ7_fill_53178_4 : decode cJ7_fill_53178 4 = .ok (.istore_n 3, 1) := by decide +kernel
theorem dJ7_fill_53178_5 : decode cJ7_fill_53178 5 = .ok (.iload_n 2, 1) := by decide +kernel
theorem dJ7_fill_53178_6 : decode cJ7_fill_53178 6 = .ok (.iload_n 3, 1) := by decide +kernel
theorem dJ7_fill_53178_7 : decode cJ7_fill_53178 7 = .ok (.if_icmp .ge 13, 3) := by decide +kernel
theorem dJ7_fill_53178_10 : decode cJ7_fill_53178 10 = .ok (.aload_n 0, 1) := by decide +kernel
theorem dJ7_fill_53178_11 : decode cJ7_fill_53178 11 = .ok (.iload_n 2, 1) := by decide +kernel
theorem dJ7_fill_53178_12 : decode cJ7_fill_53178 12 = .ok (.iload_n 1, 1) := by decide +kernel
theorem dJ7_fill_53178_13 : decode cJ7_fill_53178 13 = .ok (.iastore, 1) := by decide +kernel
theorem dJ7_fill_53178_14 : decode cJ7_fill_53178 14 = .ok (.iinc 2 1, 3) := by decide +kernel
theorem dJ7_fill_53178_17 : decode cJ7_fill_53178 17 = .ok (.goto (-12), 3) := by decide +kernel
theorem dJ7_fill_53178_20 : decode cJ7_fill_53178 20 = .ok (.return_, 1) := by decide +kernel
set_option maxRecDepth 20000 in
theorem ggL_law_X6_init : GoodIn wsL_law wsX6_init := goodIn_r _ [8, 9, 10, 11, 12, 13, 14, 15, 16, 17, 18, 19, 20, 21, 22, 23, 24, 25, 26, 27, 28, 29, 30, 31, 32, 33, 34, 35, 36, 37, 38, 39, 40, 562, 511, 512, 513, 514, 515, 516, 517, 518, 519, 520, 563, 564, 565, 566] (by decide +kernel) (by decide +kernel)
set_option maxRecDepth 20000 in
theorem gL_law_X6_init : GoodIn wsL_law (wsX6_init) := ggL_law_X6_init
set_option maxRecDepth 20000 in
theorem ggL_law_X7_init : GoodIn wsL_law wsX7_init := goodIn_r _ [43, 44, 10, 11, 45, 46, 47, 48, 49, 22, 50, 51, 52, 53, 54, 55, 56, 57, 58, 59, 60, 61, 62, 63, 64, 65, 66, 67, 68, 69, 70, 71, 72, 73, 74, 75, 76, 77, 78, 79, 80, 521, 522, 523, 524, 525, 526, 527, 528, 529, 530, 531, 532, 533, 534, 535, 536, 537, 538, 539, 540, 541, 542, 543, 544, 545, 546, 547, 548, 549, 550, 551, 552, 553, 554, 555, 556, 557, 558, 559, 560, 561] (by decide +kernel) (by decide +kernel)
set_option maxRecDepth 20000 in
theorem gL_law_X7_init : GoodIn wsL_law (wsX7_init) := ggL_law_X7_init
set_option maxRecDepth 20000 in
theorem ggL_law_X6_seed : GoodIn wsL_law wsX6_seed := goodIn_r _ [84, 15, 511, 512, 513, 514, 515, 516, 517, 518, 519, 520, 562] (by decide +kernel) (by decide +kernel)
set_option maxRecDepth 20000 in
theorem gL_law_X6_seed : GoodIn wsL_law (wsV RL 13 RX6 yX6_seed wsX6_seed) := goodIn_app (goodIn_of _ (by decide +kernel)) ggL_law_X6_seed
set_option maxRecDepth 20000 in
theorem ggL_law_X7_seed : GoodIn wsL_law wsX7_seed := goodIn_r _ [88, 45, 521, 522, 523, 524, 525, 526, 527, 528, 529, 530, 531, 532, 533, 534, 535, 536, 537, 538, 539, 540, 541, 542, 543, 544, 545, 546, 547, 548, 549, 550, 551, 552, 553, 554, 555, 556, 557, 558, 559, 560, 561] (by decide +kernel) (by decide +kernel)
set_option maxRecDepth 20000 in
theorem gL_law_X7_seed : GoodIn wsL_law (wsV RL 17 RX7 yX7_seed wsX7_seed) := goodIn_app (goodIn_of _ (by decide +kernel)) ggL_law_X7_seed
set_option maxRecDepth 20000 in
theorem ggL_law_X6_rules : GoodIn wsL_law wsX6_rules := goodIn_r _ [92, 93, 19, 94, 95, 2, 96, 511, 512, 513, 514, 515, 516, 517, 518, 519, 520, 563, 564, 565, 566] (by decide +kernel) (by decide +kernel)
set_option maxRecDepth 20000 in
theorem gL_law_X6_rules : GoodIn wsL_law (wsV RL 18 RX6 yX6_rules wsX6_rules) := goodIn_app (goodIn_of _ (by decide +kernel)) ggL_law_X6_rules
set_option maxRecDepth 20000 in
theorem ggL_law_X7_rules : GoodIn wsL_law wsX7_rules := goodIn_r _ [100, 101, 46, 47, 48, 49, 102, 103, 5, 104, 521, 522, 523, 524, 525, 526, 527, 528, 529, 530, 531, 532, 533, 534, 535, 536, 537, 538, 539, 540, 541, 542, 543, 544, 545, 546, 547, 548, 549, 550, 551, 552, 553, 554, 555, 556, 557, 558, 559, 560, 561] (by decide +kernel) (by decide +kernel)
set_option maxRecDepth 20000 in
theorem gL_law_X7_rules : GoodIn wsL_law (wsV RL 22 RX7 yX7_rules wsX7_rules) := goodIn_app (goodIn_of _ (by decide +kernel)) ggL_law_X7_rules
set_option maxRecDepth 20000 in
theorem ggL_law_X6_machine : GoodIn wsL_law wsX6_machine := goodIn_r _ [108, 93, 21, 20, 109, 110, 19, 15, 111, 112, 113, 114, 115, 10, 11, 116, 117, 118, 119, 120, 121, 122, 123, 124, 125, 126, 127, 128, 129, 130, 131, 132, 133, 22, 134, 135, 136, 137, 138, 139, 140, 141, 142, 143, 144, 145, 146, 147, 148, 149, 150, 151, 152, 14, 153, 29, 154, 511, 512, 513, 514, 515, 516, 517, 518, 519, 520, 567, 568, 569, 570, 571, 572, 573, 574, 575, 576, 577, 578, 579, 580, 581, 582, 583, 584, 563, 564, 565, 566, 585, 586, 587, 588, 589, 590, 591, 592, 593, 594, 595, 596, 597, 598, 599, 600, 562] (by decide +kernel) (by decide +kernel)
set_option maxRecDepth 20000 in
theorem gL_law_X6_machine : GoodIn wsL_law (wsV RL 23 RX6 yX6_machine wsX6_machine) := goodIn_app (goodIn_of _ (by decide +kernel)) ggL_law_X6_machine
set_option maxRecDepth 20000 in
theorem ggL_law_X7_machine : GoodIn wsL_law wsX7_machine := goodIn_r _ [158, 101, 58, 47, 62, 159, 160, 161, 162, 5, 163, 59, 61, 60, 164, 165, 166, 167, 45, 168, 521, 522, 523, 524, 525, 526, 527, 528, 529, 530, 531, 532, 533, 534, 535, 536, 537, 538, 539, 540, 541, 542, 543, 544, 545, 546, 547, 548, 549, 550, 551, 552, 553, 554, 555, 556, 557, 558, 559, 560, 561] (by decide +kernel) (by decide +kernel)
set_option maxRecDepth 20000 in
theorem gL_law_X7_machine : GoodIn wsL_law (wsV RL 27 RX7 yX7_machine wsX7_machine) := goodIn_app (goodIn_of _ (by decide +kernel)) ggL_law_X7_machine
set_option maxRecDepth 20000 in
theorem ggL_law_X6_hears : GoodIn wsL_law wsX6_hears := goodIn_r _ [172, 23, 173, 174, 175, 2, 176, 93, 21, 94, 95, 96, 177, 178, 179, 180, 511, 512, 513, 514, 515, 516, 517, 518, 519, 520] (by decide +kernel) (by decide +kernel)
set_option maxRecDepth 20000 in
theorem gL_law_X6_hears : GoodIn wsL_law (wsV RL 28 RX6 yX6_hears wsX6_hears) := goodIn_app (goodIn_of _ (by decide +kernel)) ggL_law_X6_hears
set_option maxRecDepth 20000 in
theorem ggL_law_X7_hears : GoodIn wsL_law wsX7_hears := goodIn_r _ [184, 51, 185, 186, 187, 5, 188, 101, 102, 103, 104, 521, 522, 523, 524, 525, 526, 527, 528, 529, 530, 531, 532, 533, 534, 535, 536, 537, 538, 539, 540, 541, 542, 543, 544, 545, 546, 547, 548, 549, 550, 551, 552, 553, 554, 555, 556, 557, 558, 559, 560, 561] (by decide +kernel) (by decide +kernel)
set_option maxRecDepth 20000 in
theorem gL_law_X7_hears : GoodIn wsL_law (wsV RL 32 RX7 yX7_hears wsX7_hears) := goodIn_app (goodIn_of _ (by decide +kernel)) ggL_law_X7_hears
set_option maxRecDepth 20000 in
theorem ggL_law_X6_piece : GoodIn wsL_law wsX6_piece := goodIn_r _ [192, 193, 24, 511, 512, 513, 514, 515, 516, 517, 518, 519, 520] (by decide +kernel) (by decide +kernel)
set_option maxRecDepth 20000 in
theorem gL_law_X6_piece : GoodIn wsL_law (wsV RL 33 RX6 yX6_piece wsX6_piece) := goodIn_app (goodIn_of _ (by decide +kernel)) ggL_law_X6_piece
set_option maxRecDepth 20000 in
theorem ggL_law_X7_piece : GoodIn wsL_law wsX7_piece := goodIn_r _ [197, 198, 50, 521, 522, 523, 524, 525, 526, 527, 528, 529, 530, 531, 532, 533, 534, 535, 536, 537, 538, 539, 540, 541, 542, 543, 544, 545, 546, 547, 548, 549, 550, 551, 552, 553, 554, 555, 556, 557, 558, 559, 560, 561] (by decide +kernel) (by decide +kernel)
set_option maxRecDepth 20000 in
theorem gL_law_X7_piece : GoodIn wsL_law (wsV RL 37 RX7 yX7_piece wsX7_piece) := goodIn_app (goodIn_of _ (by decide +kernel)) ggL_law_X7_piece
set_option maxRecDepth 20000 in
theorem ggL_law_X6_load : GoodIn wsL_law wsX6_load := goodIn_r _ [202, 193, 24, 111, 203, 25, 173, 174, 175, 2, 176, 93, 21, 94, 95, 96, 204, 205, 206, 110, 207, 119, 208, 209, 210, 211, 212, 213, 214, 215, 216, 217, 118, 218, 134, 135, 219, 220, 38, 39, 40, 221, 222, 223, 224, 225, 226, 227, 228, 229, 230, 231, 232, 233, 234, 235, 236, 237, 238, 123, 129, 130, 239, 143, 144, 122, 145, 146, 147, 148, 149, 150, 151, 152, 14, 153, 29, 154, 511, 512, 513, 514, 515, 516, 517, 518, 519, 520, 567, 568, 569, 570, 571, 572, 573, 574, 575, 576, 577, 578, 579, 580, 581, 582, 583, 584, 585, 586, 587, 588, 589, 590, 591, 563, 564, 565, 566, 562] (by decide +kernel) (by decide +kernel)
set_option maxRecDepth 20000 in
theorem gL_law_X6_load : GoodIn wsL_law (wsV RL 38 RX6 yX6_load wsX6_load) := goodIn_app (goodIn_of _ (by decide +kernel)) ggL_law_X6_load
set_option maxRecDepth 20000 in
theorem ggL_law_X7_load : GoodIn wsL_law wsX7_load := goodIn_r _ [243, 198, 52, 53, 55, 56, 50, 54, 185, 186, 187, 5, 188, 101, 102, 103, 104, 244, 245, 246, 247, 248, 249, 250, 251, 252, 253, 254, 255, 58, 47, 159, 160, 161, 162, 163, 59, 61, 60, 164, 165, 166, 167, 45, 168, 521, 522, 523, 524, 525, 526, 527, 528, 529, 530, 531, 532, 533, 534, 535, 536, 537, 538, 539, 540, 541, 542, 543, 544, 545, 546, 547, 548, 549, 550, 551, 552, 553, 554, 555, 556, 557, 558, 559, 560, 561] (by decide +kernel) (by decide +kernel)
set_option maxRecDepth 20000 in
theorem gL_law_X7_load : GoodIn wsL_law (wsV RL 42 RX7 yX7_load wsX7_load) := goodIn_app (goodIn_of _ (by decide +kernel)) ggL_law_X7_load
set_option maxRecDepth 20000 in
theorem ggL_law_X6_turn : GoodIn wsL_law wsX6_turn := goodIn_r _ [259, 260, 173, 174, 175, 2, 176, 93, 21, 94, 95, 96, 261, 262, 263, 110, 264, 265, 266, 511, 512, 513, 514, 515, 516, 517, 518, 519, 520, 567, 568, 569, 570, 571, 572, 573, 574, 575, 576, 577, 578, 579, 580, 581, 582, 583, 584] (by decide +kernel) (by decide +kernel)
set_option maxRecDepth 20000 in
theorem gL_law_X6_turn : GoodIn wsL_law (wsV RL 43 RX6 yX6_turn wsX6_turn) := goodIn_app (goodIn_of _ (by decide +kernel)) ggL_law_X6_turn
set_option maxRecDepth 20000 in
theorem ggL_law_X7_turn : GoodIn wsL_law wsX7_turn := goodIn_r _ [270, 68, 271, 69, 185, 186, 187, 5, 188, 101, 102, 103, 104, 521, 522, 523, 524, 525, 526, 527, 528, 529, 530, 531, 532, 533, 534, 535, 536, 537, 538, 539, 540, 541, 542, 543, 544, 545, 546, 547, 548, 549, 550, 551, 552, 553, 554, 555, 556, 557, 558, 559, 560, 561] (by decide +kernel) (by decide +kernel)
set_option maxRecDepth 20000 in
theorem gL_law_X7_turn : GoodIn wsL_law (wsV RL 46 RX7 yX7_turn wsX7_turn) := goodIn_app (goodIn_of _ (by decide +kernel)) ggL_law_X7_turn
set_option maxRecDepth 20000 in
theorem ggL_law_X6_lie : GoodIn wsL_law wsX6_lie := goodIn_r _ [275, 111, 173, 174, 175, 2, 176, 93, 21, 94, 95, 96, 276, 277, 278, 110, 279, 128, 119, 214, 208, 280, 221, 222, 223, 118, 224, 134, 135, 219, 225, 226, 227, 228, 229, 230, 231, 232, 233, 234, 215, 216, 217, 218, 220, 38, 39, 40, 235, 236, 237, 238, 123, 129, 130, 239, 143, 144, 122, 145, 146, 147, 148, 149, 150, 151, 152, 14, 153, 29, 154, 567, 568, 569, 570, 571, 572, 573, 574, 575, 576, 577, 578, 579, 580, 581, 582, 583, 584, 511, 512, 513, 514, 515, 516, 517, 518, 519, 520, 585, 586, 587, 588, 589, 590, 591, 563, 564, 565, 566, 562] (by decide +kernel) (by decide +kernel)
set_option maxRecDepth 20000 in
theorem gL_law_X6_lie : GoodIn wsL_law (wsV RL 47 RX6 yX6_lie wsX6_lie) := goodIn_app (goodIn_of _ (by decide +kernel)) ggL_law_X6_lie
set_option maxRecDepth 20000 in
theorem ggL_law_X7_lie : GoodIn wsL_law wsX7_lie := goodIn_r _ [284, 52, 53, 185, 186, 187, 5, 188, 101, 102, 103, 104, 285, 286, 287, 288, 62, 289, 290, 291, 292, 55, 56, 54, 67, 293, 294, 295, 296, 248, 249, 250, 251, 244, 245, 246, 247, 252, 253, 254, 255, 58, 47, 159, 160, 161, 162, 163, 59, 61, 60, 164, 165, 166, 167, 45, 168, 521, 522, 523, 524, 525, 526, 527, 528, 529, 530, 531, 532, 533, 534, 535, 536, 537, 538, 539, 540, 541, 542, 543, 544, 545, 546, 547, 548, 549, 550, 551, 552, 553, 554, 555, 556, 557, 558, 559, 560, 561] (by decide +kernel) (by decide +kernel)
set_option maxRecDepth 20000 in
theorem gL_law_X7_lie : GoodIn wsL_law (wsV RL 50 RX7 yX7_lie wsX7_lie) := goodIn_app (goodIn_of _ (by decide +kernel)) ggL_law_X7_lie
set_option maxRecDepth 20000 in
theorem ggL_law_X6_cut : GoodIn wsL_law wsX6_cut := goodIn_r _ [300, 111, 173, 174, 175, 2, 176, 93, 21, 301, 302, 303, 110, 304, 119, 123, 129, 130, 128, 265, 266, 305, 306, 307, 118, 308, 134, 135, 219, 239, 143, 144, 122, 145, 146, 147, 148, 149, 150, 151, 152, 14, 153, 29, 154, 511, 512, 513, 514, 515, 516, 517, 518, 519, 520, 567, 568, 569, 570, 571, 572, 573, 574, 575, 576, 577, 578, 579, 580, 581, 582, 583, 584, 563, 564, 565, 566, 585, 586, 587, 588, 589, 590, 591, 562] (by decide +kernel) (by decide +kernel)
set_option maxRecDepth 20000 in
theorem gL_law_X6_cut : GoodIn wsL_law (wsV RL 51 RX6 yX6_cut wsX6_cut) := goodIn_app (goodIn_of _ (by decide +kernel)) ggL_law_X6_cut
set_option maxRecDepth 20000 in
theorem ggL_law_X7_cut : GoodIn wsL_law wsX7_cut := goodIn_r _ [312, 55, 56, 58, 47, 159, 62, 68, 69, 185, 186, 187, 5, 188, 101, 102, 103, 104, 160, 161, 162, 163, 59, 61, 60, 164, 165, 166, 167, 45, 168, 521, 522, 523, 524, 525, 526, 527, 528, 529, 530, 531, 532, 533, 534, 535, 536, 537, 538, 539, 540, 541, 542, 543, 544, 545, 546, 547, 548, 549, 550, 551, 552, 553, 554, 555, 556, 557, 558, 559, 560, 561] (by decide +kernel) (by decide +kernel)
set_option maxRecDepth 20000 in
theorem gL_law_X7_cut : GoodIn wsL_law (wsV RL 55 RX7 yX7_cut wsX7_cut) := goodIn_app (goodIn_of _ (by decide +kernel)) ggL_law_X7_cut
set_option maxRecDepth 20000 in
theorem ggL_law_X6_ticks : GoodIn wsL_law wsX6_ticks := goodIn_r _ [316, 317, 111, 94, 95, 2, 96, 318, 319, 320, 321, 93, 173, 174, 175, 176, 21, 322, 323, 324, 110, 325, 128, 119, 127, 130, 326, 123, 129, 327, 328, 151, 152, 14, 153, 29, 154, 329, 330, 331, 118, 332, 134, 135, 225, 226, 227, 333, 334, 335, 336, 337, 338, 339, 340, 341, 342, 343, 344, 345, 346, 347, 348, 213, 214, 208, 265, 266, 349, 350, 351, 352, 353, 354, 355, 126, 356, 357, 358, 359, 360, 361, 15, 362, 363, 364, 365, 23, 177, 178, 179, 180, 366, 367, 368, 369, 370, 371, 372, 373, 374, 375, 262, 263, 264, 376, 377, 378, 379, 380, 236, 237, 238, 239, 143, 144, 122, 145, 146, 147, 148, 149, 150, 381, 382, 383, 384, 209, 210, 211, 212, 215, 216, 217, 218, 219, 220, 38, 39, 40, 385, 277, 278, 279, 280, 221, 222, 223, 224, 228, 229, 230, 231, 232, 233, 234, 386, 387, 388, 389, 390, 391, 392, 393, 394, 395, 396, 397, 398, 399, 400, 401, 402, 403, 404, 405, 406, 407, 408, 409, 410, 25, 203, 411, 511, 512, 513, 514, 515, 516, 517, 518, 519, 520, 567, 568, 569, 570, 571, 572, 573, 574, 575, 576, 577, 578, 579, 580, 581, 582, 583, 584, 585, 586, 587, 588, 589, 590, 591, 563, 564, 565, 566, 592, 593, 594, 595, 596, 597, 598, 599, 600, 562] (by decide +kernel) (by decide +kernel)
set_option maxRecDepth 20000 in
theorem gL_law_X6_ticks : GoodIn wsL_law (wsV RL 56 RX6 yX6_ticks wsX6_ticks) := goodIn_app (goodIn_of _ (by decide +kernel)) ggL_law_X6_ticks
set_option maxRecDepth 20000 in
theorem ggL_law_X7_ticks : GoodIn wsL_law wsX7_ticks := goodIn_r _ [415, 159, 416, 101, 102, 103, 5, 104, 417, 418, 419, 420, 71, 72, 52, 73, 53, 74, 54, 75, 78, 68, 79, 69, 62, 64, 421, 60, 61, 46, 63, 293, 294, 295, 296, 55, 422, 423, 424, 425, 76, 77, 56, 164, 165, 166, 167, 45, 168, 426, 427, 428, 429, 51, 80, 65, 66, 430, 431, 432, 433, 434, 435, 436, 437, 49, 252, 253, 254, 255, 58, 47, 160, 161, 162, 163, 59, 438, 439, 440, 441, 244, 245, 246, 247, 285, 286, 287, 288, 289, 290, 291, 292, 67, 248, 249, 250, 251, 442, 443, 444, 445, 48, 57, 446, 447, 448, 449, 450, 451, 452, 453, 454, 70, 455, 456, 457, 458, 521, 522, 523, 524, 525, 526, 527, 528, 529, 530, 531, 532, 533, 534, 535, 536, 537, 538, 539, 540, 541, 542, 543, 544, 545, 546, 547, 548, 549, 550, 551, 552, 553, 554, 555, 556, 557, 558, 559, 560, 561] (by decide +kernel) (by decide +kernel)
set_option maxRecDepth 20000 in
theorem gL_law_X7_ticks : GoodIn wsL_law (wsV RL 59 RX7 yX7_ticks wsX7_ticks) := goodIn_app (goodIn_of _ (by decide +kernel)) ggL_law_X7_ticks
set_option maxRecDepth 20000 in
theorem ggL_law_X6_machineOf : GoodIn wsL_law wsX6_machineOf := goodIn_r _ [462, 173, 174, 175, 2, 176, 93, 21, 463, 334, 335, 118, 336, 134, 337, 338, 339, 340, 464, 465, 466, 110, 467, 213, 214, 119, 398, 123, 128, 327, 326, 468, 469, 280, 265, 266, 403, 404, 405, 406, 567, 568, 569, 570, 571, 572, 573, 574, 575, 576, 577, 578, 579, 580, 581, 582, 583, 584, 511, 512, 513, 514, 515, 516, 517, 518, 519, 520, 585, 586, 587, 588, 589, 590, 591] (by decide +kernel) (by decide +kernel)
set_option maxRecDepth 20000 in
theorem gL_law_X6_machineOf : GoodIn wsL_law (wsV RL 60 RX6 yX6_machineOf wsX6_machineOf) := goodIn_app (goodIn_of _ (by decide +kernel)) ggL_law_X6_machineOf
set_option maxRecDepth 20000 in
theorem ggL_law_X7_machineOf : GoodIn wsL_law wsX7_machineOf := goodIn_r _ [473, 55, 52, 53, 57, 58, 59, 60, 61, 62, 63, 64, 65, 66, 67, 68, 69, 185, 186, 187, 5, 188, 101, 102, 103, 104, 474, 475, 476, 477, 293, 294, 295, 296, 446, 447, 448, 449, 521, 522, 523, 524, 525, 526, 527, 528, 529, 530, 531, 532, 533, 534, 535, 536, 537, 538, 539, 540, 541, 542, 543, 544, 545, 546, 547, 548, 549, 550, 551, 552, 553, 554, 555, 556, 557, 558, 559, 560, 561] (by decide +kernel) (by decide +kernel)
set_option maxRecDepth 20000 in
theorem gL_law_X7_machineOf : GoodIn wsL_law (wsV RL 63 RX7 yX7_machineOf wsX7_machineOf) := goodIn_app (goodIn_of _ (by decide +kernel)) ggL_law_X7_machineOf
set_option maxRecDepth 20000 in
theorem ggL_law_X6_data : GoodIn wsL_law wsX6_data := goodIn_r _ [481, 173, 174, 175, 2, 176, 93, 21, 482, 342, 343, 118, 344, 135, 337, 338, 339, 340, 134, 567, 568, 569, 570, 571, 572, 573, 574, 575, 576, 577, 578, 579, 580, 581, 582, 583, 584, 511, 512, 513, 514, 515, 516, 517, 518, 519, 520, 585, 586, 587] (by decide +kernel) (by decide +kernel)
set_option maxRecDepth 20000 in
theorem gL_law_X6_data : GoodIn wsL_law (wsV RL 64 RX6 yX6_data wsX6_data) := goodIn_app (goodIn_of _ (by decide +kernel)) ggL_law_X6_data
set_option maxRecDepth 20000 in
theorem ggL_law_X7_data : GoodIn wsL_law wsX7_data := goodIn_r _ [486, 56, 185, 186, 187, 5, 188, 101, 102, 103, 104, 474, 475, 476, 477, 55, 521, 522, 523, 524, 525, 526, 527, 528, 529, 530, 531, 532, 533, 534, 535, 536, 537, 538, 539, 540, 541, 542, 543, 544, 545, 546, 547, 548, 549, 550, 551, 552, 553, 554, 555, 556, 557, 558, 559, 560, 561] (by decide +kernel) (by decide +kernel)
set_option maxRecDepth 20000 in
theorem gL_law_X7_data : GoodIn wsL_law (wsV RL 67 RX7 yX7_data wsX7_data) := goodIn_app (goodIn_of _ (by decide +kernel)) ggL_law_X7_data
set_option maxRecDepth 20000 in
theorem ggL_law_X6_sum : GoodIn wsL_law wsX6_sum := goodIn_r _ [490, 173, 174, 175, 2, 176, 93, 21, 567, 568, 569, 570, 571, 572, 573, 574, 575, 576, 577, 578, 579, 580, 581, 582, 583, 584, 511, 512, 513, 514, 515, 516, 517, 518, 519, 520] (by decide +kernel) (by decide +kernel)
set_option maxRecDepth 20000 in
theorem gL_law_X6_sum : GoodIn wsL_law (wsV RL 68 RX6 yX6_sum wsX6_sum) := goodIn_app (goodIn_of _ (by decide +kernel)) ggL_law_X6_sum
set_option maxRecDepth 20000 in
theorem ggL_law_X7_sum : GoodIn wsL_law wsX7_sum := goodIn_r _ [494, 54, 185, 186, 187, 5, 188, 101, 102, 103, 104, 521, 522, 523, 524, 525, 526, 527, 528, 529, 530, 531, 532, 533, 534, 535, 536, 537, 538, 539, 540, 541, 542, 543, 544, 545, 546, 547, 548, 549, 550, 551, 552, 553, 554, 555, 556, 557, 558, 559, 560, 561] (by decide +kernel) (by decide +kernel)
set_option maxRecDepth 20000 in
theorem gL_law_X7_sum : GoodIn wsL_law (wsV RL 71 RX7 yX7_sum wsX7_sum) := goodIn_app (goodIn_of _ (by decide +kernel)) ggL_law_X7_sum
set_option maxRecDepth 20000 in
theorem ggL_law_X6_about : GoodIn wsL_law wsX6_about := goodIn_r _ [498, 93, 111, 193, 25, 499, 500, 501, 2, 502, 173, 174, 175, 176, 21, 503, 504, 505, 506, 203, 511, 512, 513, 514, 515, 516, 517, 518, 519, 520, 567, 568, 569, 570, 571, 572, 573, 574, 575, 576, 577, 578, 579, 580, 581, 582, 583, 584] (by decide +kernel) (by decide +kernel)
set_option maxRecDepth 20000 in
theorem gL_law_X6_about : GoodIn wsL_law (wsV RL 72 RX6 yX6_about wsX6_about) := goodIn_app (goodIn_of _ (by decide +kernel)) ggL_law_X6_about
set_option maxRecDepth 20000 in
theorem ggL_law_X7_about : GoodIn wsL_law wsX7_about := goodIn_r _ [510, 101, 57, 159, 421, 198, 454, 70, 455, 456, 457, 5, 458, 52, 521, 522, 523, 524, 525, 526, 527, 528, 529, 530, 531, 532, 533, 534, 535, 536, 537, 538, 539, 540, 541, 542, 543, 544, 545, 546, 547, 548, 549, 550, 551, 552, 553, 554, 555, 556, 557, 558, 559, 560, 561] (by decide +kernel) (by decide +kernel)
set_option maxRecDepth 20000 in
theorem gL_law_X7_about : GoodIn wsL_law (wsV RL 75 RX7 yX7_about wsX7_about) := goodIn_app (goodIn_of _ (by decide +kernel)) ggL_law_X7_about
theorem dL_law_0 : decode cL_law 0 = .ok (.new 7, 3) := by decide +kernel
theorem dL_law_3 : decode cL_law 3 = .ok (.dup, 1) := by decide +kernel
theorem dL_law_4 : decode cL_law 4 = .ok (.invokespecial 9, 3) := by decide +kernel
theorem dL_law_7 : decode cL_law 7 = .ok (.astore_n 1, 1) := by decide +kernel
theorem dL_law_8 : decode cL_law 8 = .ok (.new 10, 3) := by decide +kernel
theorem dL_law_11 : decode cL_law 11 = .ok (.dup, 1) := by decide +kernel
theorem dL_law_12 : decode cL_law 12 = .ok (.invokespecial 12, 3) := by decide +kernel
theorem dL_law_15 : decode cL_law 15 = .ok (.astore_n 2, 1) := by decide +kernel
theorem dL_law_16 : decode cL_law 16 = .ok (.iconst 0, 1) := by decide +kernel
theorem dL_law_17 : decode cL_law 17 = .ok (.istore_n 3, 1) := by decide +kernel
theorem dL_law_18 : decode cL_law 18 = .ok (.iload_n 3, 1) := by decide +kernel
theorem dL_law_19 : decode cL_law 19 = .ok (.aload_n 0, 1) := by decide +kernel
theorem dL_law_20 : decode cL_law 20 = .ok (.arraylength, 1) := by decide +kernel
theorem dL_law_21 : decode cL_law 21 = .ok (.iconst 5, 1) := by decide +kernel
theorem dL_law_22 : decode cL_law 22 = .ok (.isub, 1) := by decide +kernel
theorem dL_law_23 : decode cL_law 23 = .ok (.if_icmp .gt 543, 3) := by decide +kernel
theorem dL_law_26 : decode cL_law 26 = .ok (.aload_n 0, 1) := by decide +kernel
theorem dL_law_27 : decode cL_law 27 = .ok (.iload_n 3, 1) := by decide +kernel
theorem dL_law_28 : decode cL_law 28 = .ok (.iaload, 1) := by decide +kernel
theorem dL_law_29 : decode cL_law 29 = .ok (.bipush 15, 2) := by decide +kernel
theorem dL_law_31 : decode cL_law 31 = .ok (.iand, 1) := by decide +kernel
theorem dL_law_32 : decode cL_law 32 = .ok (.tableswitch 528 0 13 #[72, 93, 146, 159, 202, 225, 258, 301, 344, 393, 416, 449, 482, 505], 72) := by decide +kernel
theorem dL_law_104 : decode cL_law 104 = .ok (.aload_n 1, 1) := by decide +kernel
theorem dL_law_105 : decode cL_law 105 = .ok (.aload_n 0, 1) := by decide +kernel
theorem dL_law_106 : decode cL_law 106 = .ok (.iload_n 3, 1) := by decide +kernel
theorem dL_law_107 : decode cL_law 107 = .ok (.iconst 1, 1) := by decide +kernel
theorem dL_law_108 : decode cL_law 108 = .ok (.iadd, 1) := by decide +kernel
theorem dL_law_109 : decode cL_law 109 = .ok (.iaload, 1) := by decide +kernel
theorem dL_law_110 : decode cL_law 110 = .ok (.invokevirtual 13, 3) := by decide +kernel
theorem dL_law_113 : decode cL_law 113 = .ok (.aload_n 2, 1) := by decide +kernel
theorem dL_law_114 : decode cL_law 114 = .ok (.aload_n 0, 1) := by decide +kernel
theorem dL_law_115 : decode cL_law 115 = .ok (.iload_n 3, 1) := by decide +kernel
theorem dL_law_116 : decode cL_law 116 = .ok (.iconst 1, 1) := by decide +kernel
theorem dL_law_117 : decode cL_law 117 = .ok (.iadd, 1) := by decide +kernel
theorem dL_law_118 : decode cL_law 118 = .ok (.iaload, 1) := by decide +kernel
theorem dL_law_119 : decode cL_law 119 = .ok (.invokevirtual 17, 3) := by decide +kernel
theorem dL_law_122 : decode cL_law 122 = .ok (.goto 438, 3) := by decide +kernel
theorem dL_law_125 : decode cL_law 125 = .ok (.aload_n 1, 1) := by decide +kernel
theorem dL_law_126 : decode cL_law 126 = .ok (.aload_n 0, 1) := by decide +kernel
theorem dL_law_127 : decode cL_law 127 = .ok (.iload_n 3, 1) := by decide +kernel
theorem dL_law_128 : decode cL_law 128 = .ok (.iconst 1, 1) := by decide +kernel
theorem dL_law_129 : decode cL_law 129 = .ok (.iadd, 1) := by decide +kernel
theorem dL_law_130 : decode cL_law 130 = .ok (.iaload, 1) := by decide +kernel
theorem dL_law_131 : decode cL_law 131 = .ok (.aload_n 0, 1) := by decide +kernel
theorem dL_law_132 : decode cL_law 132 = .ok (.iload_n 3, 1) := by decide +kernel
theorem dL_law_133 : decode cL_law 133 = .ok (.iconst 2, 1) := by decide +kernel
theorem dL_law_134 : decode cL_law 134 = .ok (.iadd, 1) := by decide +kernel
theorem dL_law_135 : decode cL_law 135 = .ok (.iaload, 1) := by decide +kernel
theorem dL_law_136 : decode cL_law 136 = .ok (.aload_n 0, 1) := by decide +kernel
theorem dL_law_137 : decode cL_law 137 = .ok (.iload_n 3, 1) := by decide +kernel
theorem dL_law_138 : decode cL_law 138 = .ok (.iconst 3, 1) := by decide +kernel
theorem dL_law_139 : decode cL_law 139 = .ok (.iadd, 1) := by decide +kernel
theorem dL_law_140 : decode cL_law 140 = .ok (.iaload, 1) := by decide +kernel
theorem dL_law_141 : decode cL_law 141 = .ok (.aload_n 0, 1) := by decide +kernel
theorem dL_law_142 : decode cL_law 142 = .ok (.iload_n 3, 1) := by decide +kernel
theorem dL_law_143 : decode cL_law 143 = .ok (.iconst 4, 1) := by decide +kernel
theorem dL_law_144 : decode cL_law 144 = .ok (.iadd, 1) := by decide +kernel
theorem dL_law_145 : decode cL_law 145 = .ok (.iaload, 1) := by decide +kernel
theorem dL_law_146 : decode cL_law 146 = .ok (.invokevirtual 18, 3) := by decide +kernel
theorem dL_law_149 : decode cL_law 149 = .ok (.aload_n 2, 1) := by decide +kernel
theorem dL_law_150 : decode cL_law 150 = .ok (.aload_n 0, 1) := by decide +kernel
theorem dL_law_151 : decode cL_law 151 = .ok (.iload_n 3, 1) := by decide +kernel
theorem dL_law_152 : decode cL_law 152 = .ok (.iconst 1, 1) := by decide +kernel
theorem dL_law_153 : decode cL_law 153 = .ok (.iadd, 1) := by decide +kernel
theorem dL_law_154 : decode cL_law 154 = .ok (.iaload, 1) := by decide +kernel
theorem dL_law_155 : decode cL_law 155 = .ok (.aload_n 0, 1) := by decide +kernel
theorem dL_law_156 : decode cL_law 156 = .ok (.iload_n 3, 1) := by decide +kernel
theorem dL_law_157 : decode cL_law 157 = .ok (.iconst 2, 1) := by decide +kernel
theorem dL_law_158 : decode cL_law 158 = .ok (.iadd, 1) := by decide +kernel
theorem dL_law_159 : decode cL_law 159 = .ok (.iaload, 1) := by decide +kernel
theorem dL_law_160 : decode cL_law 160 = .ok (.aload_n 0, 1) := by decide +kernel
theorem dL_law_161 : decode cL_law 161 = .ok (.iload_n 3, 1) := by decide +kernel
theorem dL_law_162 : decode cL_law 162 = .ok (.iconst 3, 1) := by decide +kernel
theorem dL_law_163 : decode cL_law 163 = .ok (.iadd, 1) := by decide +kernel
theorem dL_law_164 : decode cL_law 164 = .ok (.iaload, 1) := by decide +kernel
theorem dL_law_165 : decode cL_law 165 = .ok (.aload_n 0, 1) := by decide +kernel
theorem dL_law_166 : decode cL_law 166 = .ok (.iload_n 3, 1) := by decide +kernel
theorem dL_law_167 : decode cL_law 167 = .ok (.iconst 4, 1) := by decide +kernel
theorem dL_law_168 : decode cL_law 168 = .ok (.iadd, 1) := by decide +kernel
theorem dL_law_169 : decode cL_law 169 = .ok (.iaload, 1) := by decide +kernel
theorem dL_law_170 : decode cL_law 170 = .ok (.invokevirtual 22, 3) := by decide +kernel
theorem dL_law_173 : decode cL_law 173 = .ok (.if_icmp .eq 387, 3) := by decide +kernel
theorem dL_law_176 : decode cL_law 176 = .ok (.iconst 0, 1) := by decide +kernel
theorem dL_law_177 : decode cL_law 177 = .ok (.ireturn, 1) := by decide +kernel
theorem dL_law_178 : decode cL_law 178 = .ok (.aload_n 1, 1) := by decide +kernel
theorem dL_law_179 : decode cL_law 179 = .ok (.invokevirtual 23, 3) := by decide +kernel
theorem dL_law_182 : decode cL_law 182 = .ok (.aload_n 2, 1) := by decide +kernel
theorem dL_law_183 : decode cL_law 183 = .ok (.invokevirtual 27, 3) := by decide +kernel
theorem dL_law_186 : decode cL_law 186 = .ok (.if_icmp .eq 374, 3) := by decide +kernel
theorem dL_law_189 : decode cL_law 189 = .ok (.iconst 0, 1) := by decide +kernel
theorem dL_law_190 : decode cL_law 190 = .ok (.ireturn, 1) := by decide +kernel
theorem dL_law_191 : decode cL_law 191 = .ok (.aload_n 1, 1) := by decide +kernel
theorem dL_law_192 : decode cL_law 192 = .ok (.aload_n 0, 1) := by decide +kernel
theorem dL_law_193 : decode cL_law 193 = .ok (.iload_n 3, 1) := by decide +kernel
theorem dL_law_194 : decode cL_law 194 = .ok (.iconst 1, 1) := by decide +kernel
theorem dL_law_195 : decode cL_law 195 = .ok (.iadd, 1) := by decide +kernel
theorem dL_law_196 : decode cL_law 196 = .ok (.iaload, 1) := by decide +kernel
theorem dL_law_197 : decode cL_law 197 = .ok (.aload_n 0, 1) := by decide +kernel
theorem dL_law_198 : decode cL_law 198 = .ok (.iload_n 3, 1) := by decide +kernel
theorem dL_law_199 : decode cL_law 199 = .ok (.iconst 2, 1) := by decide +kernel
theorem dL_law_200 : decode cL_law 200 = .ok (.iadd, 1) := by decide +kernel
theorem dL_law_201 : decode cL_law 201 = .ok (.iaload, 1) := by decide +kernel
theorem dL_law_202 : decode cL_law 202 = .ok (.aload_n 0, 1) := by decide +kernel
theorem dL_law_203 : decode cL_law 203 = .ok (.iload_n 3, 1) := by decide +kernel
theorem dL_law_204 : decode cL_law 204 = .ok (.iconst 3, 1) := by decide +kernel
theorem dL_law_205 : decode cL_law 205 = .ok (.iadd, 1) := by decide +kernel
theorem dL_law_206 : decode cL_law 206 = .ok (.iaload, 1) := by decide +kernel
theorem dL_law_207 : decode cL_law 207 = .ok (.invokevirtual 28, 3) := by decide +kernel
theorem dL_law_210 : decode cL_law 210 = .ok (.aload_n 2, 1) := by decide +kernel
theorem dL_law_211 : decode cL_law 211 = .ok (.aload_n 0, 1) := by decide +kernel
theorem dL_law_212 : decode cL_law 212 = .ok (.iload_n 3, 1) := by decide +kernel
theorem dL_law_213 : decode cL_law 213 = .ok (.iconst 1, 1) := by decide +kernel
theorem dL_law_214 : decode cL_law 214 = .ok (.iadd, 1) := by decide +kernel
theorem dL_law_215 : decode cL_law 215 = .ok (.iaload, 1) := by decide +kernel
theorem dL_law_216 : decode cL_law 216 = .ok (.aload_n 0, 1) := by decide +kernel
theorem dL_law_217 : decode cL_law 217 = .ok (.iload_n 3, 1) := by decide +kernel
theorem dL_law_218 : decode cL_law 218 = .ok (.iconst 2, 1) := by decide +kernel
theorem dL_law_219 : decode cL_law 219 = .ok (.iadd, 1) := by decide +kernel
theorem dL_law_220 : decode cL_law 220 = .ok (.iaload, 1) := by decide +kernel
theorem dL_law_221 : decode cL_law 221 = .ok (.aload_n 0, 1) := by decide +kernel
theorem dL_law_222 : decode cL_law 222 = .ok (.iload_n 3, 1) := by decide +kernel
theorem dL_law_223 : decode cL_law 223 = .ok (.iconst 3, 1) := by decide +kernel
theorem dL_law_224 : decode cL_law 224 = .ok (.iadd, 1) := by decide +kernel
theorem dL_law_225 : decode cL_law 225 = .ok (.iaload, 1) := by decide +kernel
theorem dL_law_226 : decode cL_law 226 = .ok (.invokevirtual 32, 3) := by decide +kernel
theorem dL_law_229 : decode cL_law 229 = .ok (.if_icmp .eq 331, 3) := by decide +kernel
theorem dL_law_232 : decode cL_law 232 = .ok (.iconst 0, 1) := by decide +kernel
theorem dL_law_233 : decode cL_law 233 = .ok (.ireturn, 1) := by decide +kernel
theorem dL_law_234 : decode cL_law 234 = .ok (.aload_n 1, 1) := by decide +kernel
theorem dL_law_235 : decode cL_law 235 = .ok (.aload_n 0, 1) := by decide +kernel
theorem dL_law_236 : decode cL_law 236 = .ok (.iload_n 3, 1) := by decide +kernel
theorem dL_law_237 : decode cL_law 237 = .ok (.iconst 1, 1) := by decide +kernel
theorem dL_law_238 : decode cL_law 238 = .ok (.iadd, 1) := by decide +kernel
theorem dL_law_239 : decode cL_law 239 = .ok (.iaload, 1) := by decide +kernel
theorem dL_law_240 : decode cL_law 240 = .ok (.invokevirtual 33, 3) := by decide +kernel
theorem dL_law_243 : decode cL_law 243 = .ok (.aload_n 2, 1) := by decide +kernel
theorem dL_law_244 : decode cL_law 244 = .ok (.aload_n 0, 1) := by decide +kernel
theorem dL_law_245 : decode cL_law 245 = .ok (.iload_n 3, 1) := by decide +kernel
theorem dL_law_246 : decode cL_law 246 = .ok (.iconst 1, 1) := by decide +kernel
theorem dL_law_247 : decode cL_law 247 = .ok (.iadd, 1) := by decide +kernel
theorem dL_law_248 : decode cL_law 248 = .ok (.iaload, 1) := by decide +kernel
theorem dL_law_249 : decode cL_law 249 = .ok (.invokevirtual 37, 3) := by decide +kernel
theorem dL_law_252 : decode cL_law 252 = .ok (.if_icmp .eq 308, 3) := by decide +kernel
theorem dL_law_255 : decode cL_law 255 = .ok (.iconst 0, 1) := by decide +kernel
theorem dL_law_256 : decode cL_law 256 = .ok (.ireturn, 1) := by decide +kernel
theorem dL_law_257 : decode cL_law 257 = .ok (.aload_n 1, 1) := by decide +kernel
theorem dL_law_258 : decode cL_law 258 = .ok (.aload_n 0, 1) := by decide +kernel
theorem dL_law_259 : decode cL_law 259 = .ok (.iload_n 3, 1) := by decide +kernel
theorem dL_law_260 : decode cL_law 260 = .ok (.iconst 1, 1) := by decide +kernel
theorem dL_law_261 : decode cL_law 261 = .ok (.iadd, 1) := by decide +kernel
theorem dL_law_262 : decode cL_law 262 = .ok (.iaload, 1) := by decide +kernel
theorem dL_law_263 : decode cL_law 263 = .ok (.aload_n 0, 1) := by decide +kernel
theorem dL_law_264 : decode cL_law 264 = .ok (.iload_n 3, 1) := by decide +kernel
theorem dL_law_265 : decode cL_law 265 = .ok (.iconst 2, 1) := by decide +kernel
theorem dL_law_266 : decode cL_law 266 = .ok (.iadd, 1) := by decide +kernel
theorem dL_law_267 : decode cL_law 267 = .ok (.iaload, 1) := by decide +kernel
theorem dL_law_268 : decode cL_law 268 = .ok (.invokevirtual 38, 3) := by decide +kernel
theorem dL_law_271 : decode cL_law 271 = .ok (.aload_n 2, 1) := by decide +kernel
theorem dL_law_272 : decode cL_law 272 = .ok (.aload_n 0, 1) := by decide +kernel
theorem dL_law_273 : decode cL_law 273 = .ok (.iload_n 3, 1) := by decide +kernel
theorem dL_law_274 : decode cL_law 274 = .ok (.iconst 1, 1) := by decide +kernel
theorem dL_law_275 : decode cL_law 275 = .ok (.iadd, 1) := by decide +kernel
theorem dL_law_276 : decode cL_law 276 = .ok (.iaload, 1) := by decide +kernel
theorem dL_law_277 : decode cL_law 277 = .ok (.aload_n 0, 1) := by decide +kernel
theorem dL_law_278 : decode cL_law 278 = .ok (.iload_n 3, 1) := by decide +kernel
theorem dL_law_279 : decode cL_law 279 = .ok (.iconst 2, 1) := by decide +kernel
theorem dL_law_280 : decode cL_law 280 = .ok (.iadd, 1) := by decide +kernel
theorem dL_law_281 : decode cL_law 281 = .ok (.iaload, 1) := by decide +kernel
theorem dL_law_282 : decode cL_law 282 = .ok (.invokevirtual 42, 3) := by decide +kernel
theorem dL_law_285 : decode cL_law 285 = .ok (.if_icmp .eq 275, 3) := by decide +kernel
theorem dL_law_288 : decode cL_law 288 = .ok (.iconst 0, 1) := by decide +kernel
theorem dL_law_289 : decode cL_law 289 = .ok (.ireturn, 1) := by decide +kernel
theorem dL_law_290 : decode cL_law 290 = .ok (.aload_n 1, 1) := by decide +kernel
theorem dL_law_291 : decode cL_law 291 = .ok (.aload_n 0, 1) := by decide +kernel
theorem dL_law_292 : decode cL_law 292 = .ok (.iload_n 3, 1) := by decide +kernel
theorem dL_law_293 : decode cL_law 293 = .ok (.iconst 1, 1) := by decide +kernel
theorem dL_law_294 : decode cL_law 294 = .ok (.iadd, 1) := by decide +kernel
theorem dL_law_295 : decode cL_law 295 = .ok (.iaload, 1) := by decide +kernel
theorem dL_law_296 : decode cL_law 296 = .ok (.aload_n 0, 1) := by decide +kernel
theorem dL_law_297 : decode cL_law 297 = .ok (.iload_n 3, 1) := by decide +kernel
theorem dL_law_298 : decode cL_law 298 = .ok (.iconst 2, 1) := by decide +kernel
theorem dL_law_299 : decode cL_law 299 = .ok (.iadd, 1) := by decide +kernel
theorem dL_law_300 : decode cL_law 300 = .ok (.iaload, 1) := by decide +kernel
theorem dL_law_301 : decode cL_law 301 = .ok (.aload_n 0, 1) := by decide +kernel
theorem dL_law_302 : decode cL_law 302 = .ok (.iload_n 3, 1) := by decide +kernel
theorem dL_law_303 : decode cL_law 303 = .ok (.iconst 3, 1) := by decide +kernel
theorem dL_law_304 : decode cL_law 304 = .ok (.iadd, 1) := by decide +kernel
theorem dL_law_305 : decode cL_law 305 = .ok (.iaload, 1) := by decide +kernel
theorem dL_law_306 : decode cL_law 306 = .ok (.invokevirtual 43, 3) := by decide +kernel
theorem dL_law_309 : decode cL_law 309 = .ok (.aload_n 2, 1) := by decide +kernel
theorem dL_law_310 : decode cL_law 310 = .ok (.aload_n 0, 1) := by decide +kernel
theorem dL_law_311 : decode cL_law 311 = .ok (.iload_n 3, 1) := by decide +kernel
theorem dL_law_312 : decode cL_law 312 = .ok (.iconst 1, 1) := by decide +kernel
theorem dL_law_313 : decode cL_law 313 = .ok (.iadd, 1) := by decide +kernel
theorem dL_law_314 : decode cL_law 314 = .ok (.iaload, 1) := by decide +kernel
theorem dL_law_315 : decode cL_law 315 = .ok (.aload_n 0, 1) := by decide +kernel
theorem dL_law_316 : decode cL_law 316 = .ok (.iload_n 3, 1) := by decide +kernel
theorem dL_law_317 : decode cL_law 317 = .ok (.iconst 2, 1) := by decide +kernel
theorem dL_law_318 : decode cL_law 318 = .ok (.iadd, 1) := by decide +kernel
theorem dL_law_319 : decode cL_law 319 = .ok (.iaload, 1) := by decide +kernel
theorem dL_law_320 : decode cL_law 320 = .ok (.aload_n 0, 1) := by decide +kernel
theorem dL_law_321 : decode cL_law 321 = .ok (.iload_n 3, 1) := by decide +kernel
theorem dL_law_322 : decode cL_law 322 = .ok (.iconst 3, 1) := by decide +kernel
theorem dL_law_323 : decode cL_law 323 = .ok (.iadd, 1) := by decide +kernel
theorem dL_law_324 : decode cL_law 324 = .ok (.iaload, 1) := by decide +kernel
theorem dL_law_325 : decode cL_law 325 = .ok (.invokevirtual 46, 3) := by decide +kernel
theorem dL_law_328 : decode cL_law 328 = .ok (.if_icmp .eq 232, 3) := by decide +kernel
theorem dL_law_331 : decode cL_law 331 = .ok (.iconst 0, 1) := by decide +kernel
theorem dL_law_332 : decode cL_law 332 = .ok (.ireturn, 1) := by decide +kernel
theorem dL_law_333 : decode cL_law 333 = .ok (.aload_n 1, 1) := by decide +kernel
theorem dL_law_334 : decode cL_law 334 = .ok (.aload_n 0, 1) := by decide +kernel
theorem dL_law_335 : decode cL_law 335 = .ok (.iload_n 3, 1) := by decide +kernel
theorem dL_law_336 : decode cL_law 336 = .ok (.iconst 1, 1) := by decide +kernel
theorem dL_law_337 : decode cL_law 337 = .ok (.iadd, 1) := by decide +kernel
theorem dL_law_338 : decode cL_law 338 = .ok (.iaload, 1) := by decide +kernel
theorem dL_law_339 : decode cL_law 339 = .ok (.aload_n 0, 1) := by decide +kernel
theorem dL_law_340 : decode cL_law 340 = .ok (.iload_n 3, 1) := by decide +kernel
theorem dL_law_341 : decode cL_law 341 = .ok (.iconst 2, 1) := by decide +kernel
theorem dL_law_342 : decode cL_law 342 = .ok (.iadd, 1) := by decide +kernel
theorem dL_law_343 : decode cL_law 343 = .ok (.iaload, 1) := by decide +kernel
theorem dL_law_344 : decode cL_law 344 = .ok (.aload_n 0, 1) := by decide +kernel
theorem dL_law_345 : decode cL_law 345 = .ok (.iload_n 3, 1) := by decide +kernel
theorem dL_law_346 : decode cL_law 346 = .ok (.iconst 3, 1) := by decide +kernel
theorem dL_law_347 : decode cL_law 347 = .ok (.iadd, 1) := by decide +kernel
theorem dL_law_348 : decode cL_law 348 = .ok (.iaload, 1) := by decide +kernel
theorem dL_law_349 : decode cL_law 349 = .ok (.invokevirtual 47, 3) := by decide +kernel
theorem dL_law_352 : decode cL_law 352 = .ok (.aload_n 2, 1) := by decide +kernel
theorem dL_law_353 : decode cL_law 353 = .ok (.aload_n 0, 1) := by decide +kernel
theorem dL_law_354 : decode cL_law 354 = .ok (.iload_n 3, 1) := by decide +kernel
theorem dL_law_355 : decode cL_law 355 = .ok (.iconst 1, 1) := by decide +kernel
theorem dL_law_356 : decode cL_law 356 = .ok (.iadd, 1) := by decide +kernel
theorem dL_law_357 : decode cL_law 357 = .ok (.iaload, 1) := by decide +kernel
theorem dL_law_358 : decode cL_law 358 = .ok (.aload_n 0, 1) := by decide +kernel
theorem dL_law_359 : decode cL_law 359 = .ok (.iload_n 3, 1) := by decide +kernel
theorem dL_law_360 : decode cL_law 360 = .ok (.iconst 2, 1) := by decide +kernel
theorem dL_law_361 : decode cL_law 361 = .ok (.iadd, 1) := by decide +kernel
theorem dL_law_362 : decode cL_law 362 = .ok (.iaload, 1) := by decide +kernel
theorem dL_law_363 : decode cL_law 363 = .ok (.aload_n 0, 1) := by decide +kernel
theorem dL_law_364 : decode cL_law 364 = .ok (.iload_n 3, 1) := by decide +kernel
theorem dL_law_365 : decode cL_law 365 = .ok (.iconst 3, 1) := by decide +kernel
theorem dL_law_366 : decode cL_law 366 = .ok (.iadd, 1) := by decide +kernel
theorem dL_law_367 : decode cL_law 367 = .ok (.iaload, 1) := by decide +kernel
theorem dL_law_368 : decode cL_law 368 = .ok (.invokevirtual 50, 3) := by decide +kernel
theorem dL_law_371 : decode cL_law 371 = .ok (.if_icmp .eq 189, 3) := by decide +kernel
theorem dL_law_374 : decode cL_law 374 = .ok (.iconst 0, 1) := by decide +kernel
theorem dL_law_375 : decode cL_law 375 = .ok (.ireturn, 1) := by decide +kernel
theorem dL_law_376 : decode cL_law 376 = .ok (.aload_n 1, 1) := by decide +kernel
theorem dL_law_377 : decode cL_law 377 = .ok (.aload_n 0, 1) := by decide +kernel
theorem dL_law_378 : decode cL_law 378 = .ok (.iload_n 3, 1) := by decide +kernel
theorem dL_law_379 : decode cL_law 379 = .ok (.iconst 1, 1) := by decide +kernel
theorem dL_law_380 : decode cL_law 380 = .ok (.iadd, 1) := by decide +kernel
theorem dL_law_381 : decode cL_law 381 = .ok (.iaload, 1) := by decide +kernel
theorem dL_law_382 : decode cL_law 382 = .ok (.aload_n 0, 1) := by decide +kernel
theorem dL_law_383 : decode cL_law 383 = .ok (.iload_n 3, 1) := by decide +kernel
theorem dL_law_384 : decode cL_law 384 = .ok (.iconst 2, 1) := by decide +kernel
theorem dL_law_385 : decode cL_law 385 = .ok (.iadd, 1) := by decide +kernel
theorem dL_law_386 : decode cL_law 386 = .ok (.iaload, 1) := by decide +kernel
theorem dL_law_387 : decode cL_law 387 = .ok (.ifCond .eq 7, 3) := by decide +kernel
theorem dL_law_390 : decode cL_law 390 = .ok (.iconst 1, 1) := by decide +kernel
theorem dL_law_391 : decode cL_law 391 = .ok (.goto 4, 3) := by decide +kernel
theorem dL_law_394 : decode cL_law 394 = .ok (.iconst 0, 1) := by decide +kernel
theorem dL_law_395 : decode cL_law 395 = .ok (.invokevirtual 51, 3) := by decide +kernel
theorem dL_law_398 : decode cL_law 398 = .ok (.aload_n 2, 1) := by decide +kernel
theorem dL_law_399 : decode cL_law 399 = .ok (.aload_n 0, 1) := by decide +kernel
theorem dL_law_400 : decode cL_law 400 = .ok (.iload_n 3, 1) := by decide +kernel
theorem dL_law_401 : decode cL_law 401 = .ok (.iconst 1, 1) := by decide +kernel
theorem dL_law_402 : decode cL_law 402 = .ok (.iadd, 1) := by decide +kernel
theorem dL_law_403 : decode cL_law 403 = .ok (.iaload, 1) := by decide +kernel
theorem dL_law_404 : decode cL_law 404 = .ok (.aload_n 0, 1) := by decide +kernel
theorem dL_law_405 : decode cL_law 405 = .ok (.iload_n 3, 1) := by decide +kernel
theorem dL_law_406 : decode cL_law 406 = .ok (.iconst 2, 1) := by decide +kernel
theorem dL_law_407 : decode cL_law 407 = .ok (.iadd, 1) := by decide +kernel
theorem dL_law_408 : decode cL_law 408 = .ok (.iaload, 1) := by decide +kernel
theorem dL_law_409 : decode cL_law 409 = .ok (.ifCond .eq 7, 3) := by decide +kernel
theorem dL_law_412 : decode cL_law 412 = .ok (.iconst 1, 1) := by decide +kernel
theorem dL_law_413 : decode cL_law 413 = .ok (.goto 4, 3) := by decide +kernel
theorem dL_law_416 : decode cL_law 416 = .ok (.iconst 0, 1) := by decide +kernel
theorem dL_law_417 : decode cL_law 417 = .ok (.invokevirtual 55, 3) := by decide +kernel
theorem dL_law_420 : decode cL_law 420 = .ok (.if_icmp .eq 140, 3) := by decide +kernel
theorem dL_law_423 : decode cL_law 423 = .ok (.iconst 0, 1) := by decide +kernel
theorem dL_law_424 : decode cL_law 424 = .ok (.ireturn, 1) := by decide +kernel
theorem dL_law_425 : decode cL_law 425 = .ok (.aload_n 1, 1) := by decide +kernel
theorem dL_law_426 : decode cL_law 426 = .ok (.aload_n 0, 1) := by decide +kernel
theorem dL_law_427 : decode cL_law 427 = .ok (.iload_n 3, 1) := by decide +kernel
theorem dL_law_428 : decode cL_law 428 = .ok (.iconst 1, 1) := by decide +kernel
theorem dL_law_429 : decode cL_law 429 = .ok (.iadd, 1) := by decide +kernel
theorem dL_law_430 : decode cL_law 430 = .ok (.iaload, 1) := by decide +kernel
theorem dL_law_431 : decode cL_law 431 = .ok (.invokevirtual 56, 3) := by decide +kernel
theorem dL_law_434 : decode cL_law 434 = .ok (.aload_n 2, 1) := by decide +kernel
theorem dL_law_435 : decode cL_law 435 = .ok (.aload_n 0, 1) := by decide +kernel
theorem dL_law_436 : decode cL_law 436 = .ok (.iload_n 3, 1) := by decide +kernel
theorem dL_law_437 : decode cL_law 437 = .ok (.iconst 1, 1) := by decide +kernel
theorem dL_law_438 : decode cL_law 438 = .ok (.iadd, 1) := by decide +kernel
theorem dL_law_439 : decode cL_law 439 = .ok (.iaload, 1) := by decide +kernel
theorem dL_law_440 : decode cL_law 440 = .ok (.invokevirtual 59, 3) := by decide +kernel
theorem dL_law_443 : decode cL_law 443 = .ok (.if_icmp .eq 117, 3) := by decide +kernel
theorem dL_law_446 : decode cL_law 446 = .ok (.iconst 0, 1) := by decide +kernel
theorem dL_law_447 : decode cL_law 447 = .ok (.ireturn, 1) := by decide +kernel
theorem dL_law_448 : decode cL_law 448 = .ok (.aload_n 1, 1) := by decide +kernel
theorem dL_law_449 : decode cL_law 449 = .ok (.aload_n 0, 1) := by decide +kernel
theorem dL_law_450 : decode cL_law 450 = .ok (.iload_n 3, 1) := by decide +kernel
theorem dL_law_451 : decode cL_law 451 = .ok (.iconst 1, 1) := by decide +kernel
theorem dL_law_452 : decode cL_law 452 = .ok (.iadd, 1) := by decide +kernel
theorem dL_law_453 : decode cL_law 453 = .ok (.iaload, 1) := by decide +kernel
theorem dL_law_454 : decode cL_law 454 = .ok (.aload_n 0, 1) := by decide +kernel
theorem dL_law_455 : decode cL_law 455 = .ok (.iload_n 3, 1) := by decide +kernel
theorem dL_law_456 : decode cL_law 456 = .ok (.iconst 2, 1) := by decide +kernel
theorem dL_law_457 : decode cL_law 457 = .ok (.iadd, 1) := by decide +kernel
theorem dL_law_458 : decode cL_law 458 = .ok (.iaload, 1) := by decide +kernel
theorem dL_law_459 : decode cL_law 459 = .ok (.invokevirtual 60, 3) := by decide +kernel
theorem dL_law_462 : decode cL_law 462 = .ok (.aload_n 2, 1) := by decide +kernel
theorem dL_law_463 : decode cL_law 463 = .ok (.aload_n 0, 1) := by decide +kernel
theorem dL_law_464 : decode cL_law 464 = .ok (.iload_n 3, 1) := by decide +kernel
theorem dL_law_465 : decode cL_law 465 = .ok (.iconst 1, 1) := by decide +kernel
theorem dL_law_466 : decode cL_law 466 = .ok (.iadd, 1) := by decide +kernel
theorem dL_law_467 : decode cL_law 467 = .ok (.iaload, 1) := by decide +kernel
theorem dL_law_468 : decode cL_law 468 = .ok (.aload_n 0, 1) := by decide +kernel
theorem dL_law_469 : decode cL_law 469 = .ok (.iload_n 3, 1) := by decide +kernel
theorem dL_law_470 : decode cL_law 470 = .ok (.iconst 2, 1) := by decide +kernel
theorem dL_law_471 : decode cL_law 471 = .ok (.iadd, 1) := by decide +kernel
theorem dL_law_472 : decode cL_law 472 = .ok (.iaload, 1) := by decide +kernel
theorem dL_law_473 : decode cL_law 473 = .ok (.invokevirtual 63, 3) := by decide +kernel
theorem dL_law_476 : decode cL_law 476 = .ok (.if_icmp .eq 84, 3) := by decide +kernel
theorem dL_law_479 : decode cL_law 479 = .ok (.iconst 0, 1) := by decide +kernel
theorem dL_law_480 : decode cL_law 480 = .ok (.ireturn, 1) := by decide +kernel
theorem dL_law_481 : decode cL_law 481 = .ok (.aload_n 1, 1) := by decide +kernel
theorem dL_law_482 : decode cL_law 482 = .ok (.aload_n 0, 1) := by decide +kernel
theorem dL_law_483 : decode cL_law 483 = .ok (.iload_n 3, 1) := by decide +kernel
theorem dL_law_484 : decode cL_law 484 = .ok (.iconst 1, 1) := by decide +kernel
theorem dL_law_485 : decode cL_law 485 = .ok (.iadd, 1) := by decide +kernel
theorem dL_law_486 : decode cL_law 486 = .ok (.iaload, 1) := by decide +kernel
theorem dL_law_487 : decode cL_law 487 = .ok (.aload_n 0, 1) := by decide +kernel
theorem dL_law_488 : decode cL_law 488 = .ok (.iload_n 3, 1) := by decide +kernel
theorem dL_law_489 : decode cL_law 489 = .ok (.iconst 2, 1) := by decide +kernel
theorem dL_law_490 : decode cL_law 490 = .ok (.iadd, 1) := by decide +kernel
theorem dL_law_491 : decode cL_law 491 = .ok (.iaload, 1) := by decide +kernel
theorem dL_law_492 : decode cL_law 492 = .ok (.invokevirtual 64, 3) := by decide +kernel
theorem dL_law_495 : decode cL_law 495 = .ok (.aload_n 2, 1) := by decide +kernel
theorem dL_law_496 : decode cL_law 496 = .ok (.aload_n 0, 1) := by decide +kernel
theorem dL_law_497 : decode cL_law 497 = .ok (.iload_n 3, 1) := by decide +kernel
theorem dL_law_498 : decode cL_law 498 = .ok (.iconst 1, 1) := by decide +kernel
theorem dL_law_499 : decode cL_law 499 = .ok (.iadd, 1) := by decide +kernel
theorem dL_law_500 : decode cL_law 500 = .ok (.iaload, 1) := by decide +kernel
theorem dL_law_501 : decode cL_law 501 = .ok (.aload_n 0, 1) := by decide +kernel
theorem dL_law_502 : decode cL_law 502 = .ok (.iload_n 3, 1) := by decide +kernel
theorem dL_law_503 : decode cL_law 503 = .ok (.iconst 2, 1) := by decide +kernel
theorem dL_law_504 : decode cL_law 504 = .ok (.iadd, 1) := by decide +kernel
theorem dL_law_505 : decode cL_law 505 = .ok (.iaload, 1) := by decide +kernel
theorem dL_law_506 : decode cL_law 506 = .ok (.invokevirtual 67, 3) := by decide +kernel
theorem dL_law_509 : decode cL_law 509 = .ok (.if_icmp .eq 51, 3) := by decide +kernel
theorem dL_law_512 : decode cL_law 512 = .ok (.iconst 0, 1) := by decide +kernel
theorem dL_law_513 : decode cL_law 513 = .ok (.ireturn, 1) := by decide +kernel
theorem dL_law_514 : decode cL_law 514 = .ok (.aload_n 1, 1) := by decide +kernel
theorem dL_law_515 : decode cL_law 515 = .ok (.aload_n 0, 1) := by decide +kernel
theorem dL_law_516 : decode cL_law 516 = .ok (.iload_n 3, 1) := by decide +kernel
theorem dL_law_517 : decode cL_law 517 = .ok (.iconst 1, 1) := by decide +kernel
theorem dL_law_518 : decode cL_law 518 = .ok (.iadd, 1) := by decide +kernel
theorem dL_law_519 : decode cL_law 519 = .ok (.iaload, 1) := by decide +kernel
theorem dL_law_520 : decode cL_law 520 = .ok (.invokevirtual 68, 3) := by decide +kernel
theorem dL_law_523 : decode cL_law 523 = .ok (.aload_n 2, 1) := by decide +kernel
