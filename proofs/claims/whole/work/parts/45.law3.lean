/-! the law: its calls, 2 -/
set_option maxHeartbeats 4000000 in
set_option maxRecDepth 100000 in
theorem lc_3 {p : Program} {l : Launch} {e : Env} {s : State} {m : MethodId} {below : List Frame} {meth : Method} {c : Code} {b L : Nat} {xs : Nat → Int32} (C0 : lw_At p s m meth c b L xs) {dD : va_G} {cI cA : ClassId} (hK : zK dD cI cA s) {q q2 : Nat → Nat} {k cells slots : Nat} {Q : State → Prop} (hL : L ≤ 2560) (hk : 5 * k + 5 ≤ L) (hc : cells + 6 ≤ 600000) (hs : slots + 58 ≤ 7302250) (KK : lKK p l e s m below meth c b dD cI cA q q2 k cells slots Q) {n : Nat} {qq : Nat → Nat → Nat} {g fO to gR gD : zF} {S : Nat → Nat → zF} {C : Nat → Option Nat} {g2 : zF} {F : Nat → zF} (hZ : ZR n g fO to gR gD S C g2 F) {H : Heap} {locs : List Loc} (hP : va_P dD vwCl (([zX q g, zP cA (q 3) (zfm qq n), zA cI (q 4) 144 fO, zA cI (q 5) 12 to, zR (q 2) gR, zD (q 1) gD] ++ zPool cI q qq n S C) ++ zQ cI q2 g2 F) H) (hD : va_D (fun x : Nat => s.heap.size ≤ x) (([zX q g, zP cA (q 3) (zfm qq n), zA cI (q 4) 144 fO, zA cI (q 5) 12 to, zR (q 2) gR, zD (q 1) gD] ++ zPool cI q qq n S C) ++ zQ cI q2 g2 F)) (hS : va_S (fun x : Nat => s.heap.size ≤ x) s.heap H locs) {ls : Array Slot} (hl : lv_has ls 4 [(0, .ref b), (1, .ref (q 0)), (2, .ref (q2 0)), (3, .int (nI (5 * k)))]) : W p l e room_1 s m #[Value.ref b] below meth c H locs cells slots Q (F0 m 191 ls []) := by
  obtain ⟨hx, hb, hr, hml, hown, hts0, hX, hbl, hlocks, hgv⟩ := C0
  have hts : ∀ w ∈ wsL_law, w.before #[Value.ref b] s = true := fun w hw => hts0 w (law_in w hw)
  have hown : s.vm.findClass RL = some m.cls := hown
  have hA : ∀ x : Nat, s.heap.size ≤ x → (fun x : Nat => s.heap.size ≤ x) x := fun _ h => h
  have hbA : ¬ (fun x : Nat => s.heap.size ≤ x) b := Nat.not_le.mpr hbl
  have hcs : cells ≤ room_1.cells ∧ slots ≤ room_1.slots := ⟨show cells ≤ 600000 by omega, show slots ≤ 7302250 by omega⟩
  have hn12 : n ≤ 12 := by obtain ⟨_, _, _, _, h, _⟩ := hZ; exact h.1
  obtain ⟨r, fO1, F1, h1, h2, -, h3⟩ := hears_op hZ (xs (5 * k + 1)) (xs (5 * k + 2)) (xs (5 * k + 3))
  refine lv_aload_n hx hb dL_law_191 rfl (lv_at hl 1 rfl) ?_
  refine lv_aload_n hx hb dL_law_192 rfl (lv_at hl 0 rfl) ?_
  refine lv_iload_n hx hb dL_law_193 rfl (lv_at hl 3 rfl) ?_
  refine lv_iconst (v := nI 1) hx hb dL_law_194 (by decide) ?_
  refine lv_iadd hx hb dL_law_195 ?_
  refine z_top (ixk (5 * k) 1) ?_
  refine va_sld hx hb hX hbl hbA hS (vp_in_nI (show 5 * k + 1 < L by omega) (by omega)) dL_law_196 ?_
  refine z_top (lxs (show 5 * k + 1 < 2 ^ 31 by omega)) ?_
  refine lv_aload_n hx hb dL_law_197 rfl (lv_at hl 0 rfl) ?_
  refine lv_iload_n hx hb dL_law_198 rfl (lv_at hl 3 rfl) ?_
  refine lv_iconst (v := nI 2) hx hb dL_law_199 (by decide) ?_
  refine lv_iadd hx hb dL_law_200 ?_
  refine z_top (ixk (5 * k) 2) ?_
  refine va_sld hx hb hX hbl hbA hS (vp_in_nI (show 5 * k + 2 < L by omega) (by omega)) dL_law_201 ?_
  refine z_top (lxs (show 5 * k + 2 < 2 ^ 31 by omega)) ?_
  refine lv_aload_n hx hb dL_law_202 rfl (lv_at hl 0 rfl) ?_
  refine lv_iload_n hx hb dL_law_203 rfl (lv_at hl 3 rfl) ?_
  refine lv_iconst (v := nI 3) hx hb dL_law_204 (by decide) ?_
  refine lv_iadd hx hb dL_law_205 ?_
  refine z_top (ixk (5 * k) 3) ?_
  refine va_sld hx hb hX hbl hbA hS (vp_in_nI (show 5 * k + 3 < L by omega) (by omega)) dL_law_206 ?_
  refine z_top (lxs (show 5 * k + 3 < 2 ^ 31 by omega)) ?_
  refine z_callVi ⟨hx, hb, hml, hown, hts⟩ hK (c_X6_hears l dD cI cA q qq n hn12 g fO to gR gD S C (xs (5 * k + 1)) (xs (5 * k + 2)) (xs (5 * k + 3)) r fO1 h1) (cwV 3 hts gL_law_X6_hears rfl rfl rfl (by decide +kernel) ⟨Nat.le_of_ble_eq_true rfl, Nat.le_of_ble_eq_true rfl⟩) (zJ_l hP hD hS hA) hS 0 6 rfl rfl rfl rfl hl.1 rfl (Nat.le_of_ble_eq_true rfl) dL_law_207 hcs (fun H locs hP hD hS => ?_)
  have hP : va_P dD vwCl (([zX q g, zP cA (q 3) (zfm qq n), zA cI (q 4) 144 fO1, zA cI (q 5) 12 to, zR (q 2) gR, zD (q 1) gD] ++ zPool cI q qq n S C) ++ zQ cI q2 g2 F) H := hP
  have hD : va_D (fun x : Nat => s.heap.size ≤ x) (([zX q g, zP cA (q 3) (zfm qq n), zA cI (q 4) 144 fO1, zA cI (q 5) 12 to, zR (q 2) gR, zD (q 1) gD] ++ zPool cI q qq n S C) ++ zQ cI q2 g2 F) := hD
  refine lv_aload_n hx hb dL_law_210 rfl (lv_at hl 2 rfl) ?_
  refine lv_aload_n hx hb dL_law_211 rfl (lv_at hl 0 rfl) ?_
  refine lv_iload_n hx hb dL_law_212 rfl (lv_at hl 3 rfl) ?_
  refine lv_iconst (v := nI 1) hx hb dL_law_213 (by decide) ?_
  refine lv_iadd hx hb dL_law_214 ?_
  refine z_top (ixk (5 * k) 1) ?_
  refine va_sld hx hb hX hbl hbA hS (vp_in_nI (show 5 * k + 1 < L by omega) (by omega)) dL_law_215 ?_
  refine z_top (lxs (show 5 * k + 1 < 2 ^ 31 by omega)) ?_
  refine lv_aload_n hx hb dL_law_216 rfl (lv_at hl 0 rfl) ?_
  refine lv_iload_n hx hb dL_law_217 rfl (lv_at hl 3 rfl) ?_
  refine lv_iconst (v := nI 2) hx hb dL_law_218 (by decide) ?_
  refine lv_iadd hx hb dL_law_219 ?_
  refine z_top (ixk (5 * k) 2) ?_
  refine va_sld hx hb hX hbl hbA hS (vp_in_nI (show 5 * k + 2 < L by omega) (by omega)) dL_law_220 ?_
  refine z_top (lxs (show 5 * k + 2 < 2 ^ 31 by omega)) ?_
  refine lv_aload_n hx hb dL_law_221 rfl (lv_at hl 0 rfl) ?_
  refine lv_iload_n hx hb dL_law_222 rfl (lv_at hl 3 rfl) ?_
  refine lv_iconst (v := nI 3) hx hb dL_law_223 (by decide) ?_
  refine lv_iadd hx hb dL_law_224 ?_
  refine z_top (ixk (5 * k) 3) ?_
  refine va_sld hx hb hX hbl hbA hS (vp_in_nI (show 5 * k + 3 < L by omega) (by omega)) dL_law_225 ?_
  refine z_top (lxs (show 5 * k + 3 < 2 ^ 31 by omega)) ?_
  refine z_callVi ⟨hx, hb, hml, hown, hts⟩ hK (c_X7_hears l dD cI cA q2 g2 F (xs (5 * k + 1)) (xs (5 * k + 2)) (xs (5 * k + 3)) r F1 h2) (cwV 3 hts gL_law_X7_hears rfl rfl rfl (by decide +kernel) ⟨Nat.le_of_ble_eq_true rfl, Nat.le_of_ble_eq_true rfl⟩) (zJ_r hP hD hS hA) hS 0 7 rfl rfl rfl rfl hl.1 rfl (Nat.le_of_ble_eq_true rfl) dL_law_226 hcs (fun H locs hP hD hS => ?_)
  refine lv_icmp_eq (tgt := 560) hx hb dL_law_229 (by decide) (fun _ => ?_) (fun h => absurd rfl h)
  refine W.widen (k := cells + 6) (n := slots + 58) (by omega) (by omega) ?_
  exact KK _ _ _ _ _ _ _ _ _ _ _ _ _ _ h3 hP hD hS hl
set_option maxHeartbeats 4000000 in
set_option maxRecDepth 100000 in
theorem lc_4 {p : Program} {l : Launch} {e : Env} {s : State} {m : MethodId} {below : List Frame} {meth : Method} {c : Code} {b L : Nat} {xs : Nat → Int32} (C0 : lw_At p s m meth c b L xs) {dD : va_G} {cI cA : ClassId} (hK : zK dD cI cA s) {q q2 : Nat → Nat} {k cells slots : Nat} {Q : State → Prop} (hL : L ≤ 2560) (hk : 5 * k + 5 ≤ L) (hc : cells + 6 ≤ 600000) (hs : slots + 58 ≤ 7302250) (KK : lKK p l e s m below meth c b dD cI cA q q2 k cells slots Q) {n : Nat} {qq : Nat → Nat → Nat} {g fO to gR gD : zF} {S : Nat → Nat → zF} {C : Nat → Option Nat} {g2 : zF} {F : Nat → zF} (hZ : ZR n g fO to gR gD S C g2 F) {H : Heap} {locs : List Loc} (hP : va_P dD vwCl (([zX q g, zP cA (q 3) (zfm qq n), zA cI (q 4) 144 fO, zA cI (q 5) 12 to, zR (q 2) gR, zD (q 1) gD] ++ zPool cI q qq n S C) ++ zQ cI q2 g2 F) H) (hD : va_D (fun x : Nat => s.heap.size ≤ x) (([zX q g, zP cA (q 3) (zfm qq n), zA cI (q 4) 144 fO, zA cI (q 5) 12 to, zR (q 2) gR, zD (q 1) gD] ++ zPool cI q qq n S C) ++ zQ cI q2 g2 F)) (hS : va_S (fun x : Nat => s.heap.size ≤ x) s.heap H locs) {ls : Array Slot} (hl : lv_has ls 4 [(0, .ref b), (1, .ref (q 0)), (2, .ref (q2 0)), (3, .int (nI (5 * k)))]) : W p l e room_1 s m #[Value.ref b] below meth c H locs cells slots Q (F0 m 234 ls []) := by
  obtain ⟨hx, hb, hr, hml, hown, hts0, hX, hbl, hlocks, hgv⟩ := C0
  have hts : ∀ w ∈ wsL_law, w.before #[Value.ref b] s = true := fun w hw => hts0 w (law_in w hw)
  have hown : s.vm.findClass RL = some m.cls := hown
  have hA : ∀ x : Nat, s.heap.size ≤ x → (fun x : Nat => s.heap.size ≤ x) x := fun _ h => h
  have hbA : ¬ (fun x : Nat => s.heap.size ≤ x) b := Nat.not_le.mpr hbl
  have hcs : cells ≤ room_1.cells ∧ slots ≤ room_1.slots := ⟨show cells ≤ 600000 by omega, show slots ≤ 7302250 by omega⟩
  have hn12 : n ≤ 12 := by obtain ⟨_, _, _, _, h, _⟩ := hZ; exact h.1
  obtain ⟨r, g1, to1, g21, F1, h1, h2, h3⟩ := piece_op hZ (xs (5 * k + 1))
  refine lv_aload_n hx hb dL_law_234 rfl (lv_at hl 1 rfl) ?_
  refine lv_aload_n hx hb dL_law_235 rfl (lv_at hl 0 rfl) ?_
  refine lv_iload_n hx hb dL_law_236 rfl (lv_at hl 3 rfl) ?_
  refine lv_iconst (v := nI 1) hx hb dL_law_237 (by decide) ?_
  refine lv_iadd hx hb dL_law_238 ?_
  refine z_top (ixk (5 * k) 1) ?_
  refine va_sld hx hb hX hbl hbA hS (vp_in_nI (show 5 * k + 1 < L by omega) (by omega)) dL_law_239 ?_
  refine z_top (lxs (show 5 * k + 1 < 2 ^ 31 by omega)) ?_
  have hP : va_P dD vwCl (zX q g :: ([zP cA (q 3) (zfm qq n), zA cI (q 4) 144 fO] ++ zA cI (q 5) 12 to :: (zR (q 2) gR :: zD (q 1) gD :: (zPool cI q qq n S C ++ zQ cI q2 g2 F)))) H := hP
  have hD : va_D (fun x : Nat => s.heap.size ≤ x) (zX q g :: ([zP cA (q 3) (zfm qq n), zA cI (q 4) 144 fO] ++ zA cI (q 5) 12 to :: (zR (q 2) gR :: zD (q 1) gD :: (zPool cI q qq n S C ++ zQ cI q2 g2 F)))) := hD
  refine z_callVi ⟨hx, hb, hml, hown, hts⟩ hK (c_X6_piece l dD cI cA q g to (xs (5 * k + 1)) r g1 to1 h1) (cwV 1 hts gL_law_X6_piece rfl rfl rfl (by decide +kernel) ⟨Nat.le_of_ble_eq_true rfl, Nat.le_of_ble_eq_true rfl⟩) (zJ_m hP hD hS hA) hS 0 6 rfl rfl rfl rfl hl.1 rfl (Nat.le_of_ble_eq_true rfl) dL_law_240 hcs (fun H locs hP hD hS => ?_)
  have hP : va_P dD vwCl (([zX q g1, zP cA (q 3) (zfm qq n), zA cI (q 4) 144 fO, zA cI (q 5) 12 to1, zR (q 2) gR, zD (q 1) gD] ++ zPool cI q qq n S C) ++ zQ cI q2 g2 F) H := hP
  have hD : va_D (fun x : Nat => s.heap.size ≤ x) (([zX q g1, zP cA (q 3) (zfm qq n), zA cI (q 4) 144 fO, zA cI (q 5) 12 to1, zR (q 2) gR, zD (q 1) gD] ++ zPool cI q qq n S C) ++ zQ cI q2 g2 F) := hD
  refine lv_aload_n hx hb dL_law_243 rfl (lv_at hl 2 rfl) ?_
  refine lv_aload_n hx hb dL_law_244 rfl (lv_at hl 0 rfl) ?_
  refine lv_iload_n hx hb dL_law_245 rfl (lv_at hl 3 rfl) ?_
  refine lv_iconst (v := nI 1) hx hb dL_law_246 (by decide) ?_
  refine lv_iadd hx hb dL_law_247 ?_
  refine z_top (ixk (5 * k) 1) ?_
  refine va_sld hx hb hX hbl hbA hS (vp_in_nI (show 5 * k + 1 < L by omega) (by omega)) dL_law_248 ?_
  refine z_top (lxs (show 5 * k + 1 < 2 ^ 31 by omega)) ?_
  refine z_callVi ⟨hx, hb, hml, hown, hts⟩ hK (c_X7_piece l dD cI cA q2 g2 F (xs (5 * k + 1)) r g21 F1 h2) (cwV 1 hts gL_law_X7_piece rfl rfl rfl (by decide +kernel) ⟨Nat.le_of_ble_eq_true rfl, Nat.le_of_ble_eq_true rfl⟩) (zJ_r hP hD hS hA) hS 0 7 rfl rfl rfl rfl hl.1 rfl (Nat.le_of_ble_eq_true rfl) dL_law_249 hcs (fun H locs hP hD hS => ?_)
  refine lv_icmp_eq (tgt := 560) hx hb dL_law_252 (by decide) (fun _ => ?_) (fun h => absurd rfl h)
  refine W.widen (k := cells + 6) (n := slots + 58) (by omega) (by omega) ?_
  exact KK _ _ _ _ _ _ _ _ _ _ _ _ _ _ h3 hP hD hS hl
set_option maxHeartbeats 4000000 in
set_option maxRecDepth 100000 in
theorem lc_5 {p : Program} {l : Launch} {e : Env} {s : State} {m : MethodId} {below : List Frame} {meth : Method} {c : Code} {b L : Nat} {xs : Nat → Int32} (C0 : lw_At p s m meth c b L xs) {dD : va_G} {cI cA : ClassId} (hK : zK dD cI cA s) {q q2 : Nat → Nat} {k cells slots : Nat} {Q : State → Prop} (hL : L ≤ 2560) (hk : 5 * k + 5 ≤ L) (hc : cells + 6 ≤ 600000) (hs : slots + 58 ≤ 7302250) (KK : lKK p l e s m below meth c b dD cI cA q q2 k cells slots Q) {n : Nat} {qq : Nat → Nat → Nat} {g fO to gR gD : zF} {S : Nat → Nat → zF} {C : Nat → Option Nat} {g2 : zF} {F : Nat → zF} (hZ : ZR n g fO to gR gD S C g2 F) {H : Heap} {locs : List Loc} (hP : va_P dD vwCl (([zX q g, zP cA (q 3) (zfm qq n), zA cI (q 4) 144 fO, zA cI (q 5) 12 to, zR (q 2) gR, zD (q 1) gD] ++ zPool cI q qq n S C) ++ zQ cI q2 g2 F) H) (hD : va_D (fun x : Nat => s.heap.size ≤ x) (([zX q g, zP cA (q 3) (zfm qq n), zA cI (q 4) 144 fO, zA cI (q 5) 12 to, zR (q 2) gR, zD (q 1) gD] ++ zPool cI q qq n S C) ++ zQ cI q2 g2 F)) (hS : va_S (fun x : Nat => s.heap.size ≤ x) s.heap H locs) {ls : Array Slot} (hl : lv_has ls 4 [(0, .ref b), (1, .ref (q 0)), (2, .ref (q2 0)), (3, .int (nI (5 * k)))]) : W p l e room_1 s m #[Value.ref b] below meth c H locs cells slots Q (F0 m 257 ls []) := by
  obtain ⟨hx, hb, hr, hml, hown, hts0, hX, hbl, hlocks, hgv⟩ := C0
  have hts : ∀ w ∈ wsL_law, w.before #[Value.ref b] s = true := fun w hw => hts0 w (law_in w hw)
  have hown : s.vm.findClass RL = some m.cls := hown
  have hA : ∀ x : Nat, s.heap.size ≤ x → (fun x : Nat => s.heap.size ≤ x) x := fun _ h => h
  have hbA : ¬ (fun x : Nat => s.heap.size ≤ x) b := Nat.not_le.mpr hbl
  have hcs : cells ≤ room_1.cells ∧ slots ≤ room_1.slots := ⟨show cells ≤ 600000 by omega, show slots ≤ 7302250 by omega⟩
  have hn12 : n ≤ 12 := by obtain ⟨_, _, _, _, h, _⟩ := hZ; exact h.1
  obtain ⟨r, g1, gD1, S1, g21, F1, h1, h2, h3⟩ := load_op hZ (xs (5 * k + 1)) (xs (5 * k + 2))
  refine lv_aload_n hx hb dL_law_257 rfl (lv_at hl 1 rfl) ?_
  refine lv_aload_n hx hb dL_law_258 rfl (lv_at hl 0 rfl) ?_
  refine lv_iload_n hx hb dL_law_259 rfl (lv_at hl 3 rfl) ?_
  refine lv_iconst (v := nI 1) hx hb dL_law_260 (by decide) ?_
  refine lv_iadd hx hb dL_law_261 ?_
  refine z_top (ixk (5 * k) 1) ?_
  refine va_sld hx hb hX hbl hbA hS (vp_in_nI (show 5 * k + 1 < L by omega) (by omega)) dL_law_262 ?_
  refine z_top (lxs (show 5 * k + 1 < 2 ^ 31 by omega)) ?_
  refine lv_aload_n hx hb dL_law_263 rfl (lv_at hl 0 rfl) ?_
  refine lv_iload_n hx hb dL_law_264 rfl (lv_at hl 3 rfl) ?_
  refine lv_iconst (v := nI 2) hx hb dL_law_265 (by decide) ?_
  refine lv_iadd hx hb dL_law_266 ?_
  refine z_top (ixk (5 * k) 2) ?_
  refine va_sld hx hb hX hbl hbA hS (vp_in_nI (show 5 * k + 2 < L by omega) (by omega)) dL_law_267 ?_
  refine z_top (lxs (show 5 * k + 2 < 2 ^ 31 by omega)) ?_
  refine z_callVi ⟨hx, hb, hml, hown, hts⟩ hK (c_X6_load l dD cI cA q qq n hn12 g fO to gR gD S C (xs (5 * k + 1)) (xs (5 * k + 2)) r g1 gD1 S1 h1) (cwV 2 hts gL_law_X6_load rfl rfl rfl (by decide +kernel) ⟨Nat.le_of_ble_eq_true rfl, Nat.le_of_ble_eq_true rfl⟩) (zJ_l hP hD hS hA) hS 0 6 rfl rfl rfl rfl hl.1 rfl (Nat.le_of_ble_eq_true rfl) dL_law_268 hcs (fun H locs hP hD hS => ?_)
  have hP : va_P dD vwCl (([zX q g1, zP cA (q 3) (zfm qq n), zA cI (q 4) 144 fO, zA cI (q 5) 12 to, zR (q 2) gR, zD (q 1) gD1] ++ zPool cI q qq n S1 C) ++ zQ cI q2 g2 F) H := hP
  have hD : va_D (fun x : Nat => s.heap.size ≤ x) (([zX q g1, zP cA (q 3) (zfm qq n), zA cI (q 4) 144 fO, zA cI (q 5) 12 to, zR (q 2) gR, zD (q 1) gD1] ++ zPool cI q qq n S1 C) ++ zQ cI q2 g2 F) := hD
  refine lv_aload_n hx hb dL_law_271 rfl (lv_at hl 2 rfl) ?_
  refine lv_aload_n hx hb dL_law_272 rfl (lv_at hl 0 rfl) ?_
  refine lv_iload_n hx hb dL_law_273 rfl (lv_at hl 3 rfl) ?_
  refine lv_iconst (v := nI 1) hx hb dL_law_274 (by decide) ?_
  refine lv_iadd hx hb dL_law_275 ?_
  refine z_top (ixk (5 * k) 1) ?_
  refine va_sld hx hb hX hbl hbA hS (vp_in_nI (show 5 * k + 1 < L by omega) (by omega)) dL_law_276 ?_
  refine z_top (lxs (show 5 * k + 1 < 2 ^ 31 by omega)) ?_
  refine lv_aload_n hx hb dL_law_277 rfl (lv_at hl 0 rfl) ?_
  refine lv_iload_n hx hb dL_law_278 rfl (lv_at hl 3 rfl) ?_
  refine lv_iconst (v := nI 2) hx hb dL_law_279 (by decide) ?_
  refine lv_iadd hx hb dL_law_280 ?_
  refine z_top (ixk (5 * k) 2) ?_
  refine va_sld hx hb hX hbl hbA hS (vp_in_nI (show 5 * k + 2 < L by omega) (by omega)) dL_law_281 ?_
  refine z_top (lxs (show 5 * k + 2 < 2 ^ 31 by omega)) ?_
  refine z_callVi ⟨hx, hb, hml, hown, hts⟩ hK (c_X7_load l dD cI cA q2 g2 F (xs (5 * k + 1)) (xs (5 * k + 2)) r g21 F1 h2) (cwV 2 hts gL_law_X7_load rfl rfl rfl (by decide +kernel) ⟨Nat.le_of_ble_eq_true rfl, Nat.le_of_ble_eq_true rfl⟩) (zJ_r hP hD hS hA) hS 0 7 rfl rfl rfl rfl hl.1 rfl (Nat.le_of_ble_eq_true rfl) dL_law_282 hcs (fun H locs hP hD hS => ?_)
  refine lv_icmp_eq (tgt := 560) hx hb dL_law_285 (by decide) (fun _ => ?_) (fun h => absurd rfl h)
  refine W.widen (k := cells + 6) (n := slots + 58) (by omega) (by omega) ?_
  exact KK _ _ _ _ _ _ _ _ _ _ _ _ _ _ h3 hP hD hS hl
set_option maxHeartbeats 4000000 in
set_option maxRecDepth 100000 in
theorem lc_6 {p : Program} {l : Launch} {e : Env} {s : State} {m : MethodId} {below : List Frame} {meth : Method} {c : Code} {b L : Nat} {xs : Nat → Int32} (C0 : lw_At p s m meth c b L xs) {dD : va_G} {cI cA : ClassId} (hK : zK dD cI cA s) {q q2 : Nat → Nat} {k cells slots : Nat} {Q : State → Prop} (hL : L ≤ 2560) (hk : 5 * k + 5 ≤ L) (hc : cells + 6 ≤ 600000) (hs : slots + 58 ≤ 7302250) (KK : lKK p l e s m below meth c b dD cI cA q q2 k cells slots Q) {n : Nat} {qq : Nat → Nat → Nat} {g fO to gR gD : zF} {S : Nat → Nat → zF} {C : Nat → Option Nat} {g2 : zF} {F : Nat → zF} (hZ : ZR n g fO to gR gD S C g2 F) {H : Heap} {locs : List Loc} (hP : va_P dD vwCl (([zX q g, zP cA (q 3) (zfm qq n), zA cI (q 4) 144 fO, zA cI (q 5) 12 to, zR (q 2) gR, zD (q 1) gD] ++ zPool cI q qq n S C) ++ zQ cI q2 g2 F) H) (hD : va_D (fun x : Nat => s.heap.size ≤ x) (([zX q g, zP cA (q 3) (zfm qq n), zA cI (q 4) 144 fO, zA cI (q 5) 12 to, zR (q 2) gR, zD (q 1) gD] ++ zPool cI q qq n S C) ++ zQ cI q2 g2 F)) (hS : va_S (fun x : Nat => s.heap.size ≤ x) s.heap H locs) {ls : Array Slot} (hl : lv_has ls 4 [(0, .ref b), (1, .ref (q 0)), (2, .ref (q2 0)), (3, .int (nI (5 * k)))]) : W p l e room_1 s m #[Value.ref b] below meth c H locs cells slots Q (F0 m 290 ls []) := by
  obtain ⟨hx, hb, hr, hml, hown, hts0, hX, hbl, hlocks, hgv⟩ := C0
  have hts : ∀ w ∈ wsL_law, w.before #[Value.ref b] s = true := fun w hw => hts0 w (law_in w hw)
  have hown : s.vm.findClass RL = some m.cls := hown
  have hA : ∀ x : Nat, s.heap.size ≤ x → (fun x : Nat => s.heap.size ≤ x) x := fun _ h => h
  have hbA : ¬ (fun x : Nat => s.heap.size ≤ x) b := Nat.not_le.mpr hbl
  have hcs : cells ≤ room_1.cells ∧ slots ≤ room_1.slots := ⟨show cells ≤ 600000 by omega, show slots ≤ 7302250 by omega⟩
  have hn12 : n ≤ 12 := by obtain ⟨_, _, _, _, h, _⟩ := hZ; exact h.1
  obtain ⟨r, S1, F1, h1, h2, -, h3⟩ := turn_op hZ (xs (5 * k + 1)) (xs (5 * k + 2)) (xs (5 * k + 3))
  refine lv_aload_n hx hb dL_law_290 rfl (lv_at hl 1 rfl) ?_
  refine lv_aload_n hx hb dL_law_291 rfl (lv_at hl 0 rfl) ?_
  refine lv_iload_n hx hb dL_law_292 rfl (lv_at hl 3 rfl) ?_
  refine lv_iconst (v := nI 1) hx hb dL_law_293 (by decide) ?_
  refine lv_iadd hx hb dL_law_294 ?_
  refine z_top (ixk (5 * k) 1) ?_
  refine va_sld hx hb hX hbl hbA hS (vp_in_nI (show 5 * k + 1 < L by omega) (by omega)) dL_law_295 ?_
  refine z_top (lxs (show 5 * k + 1 < 2 ^ 31 by omega)) ?_
  refine lv_aload_n hx hb dL_law_296 rfl (lv_at hl 0 rfl) ?_
  refine lv_iload_n hx hb dL_law_297 rfl (lv_at hl 3 rfl) ?_
  refine lv_iconst (v := nI 2) hx hb dL_law_298 (by decide) ?_
  refine lv_iadd hx hb dL_law_299 ?_
  refine z_top (ixk (5 * k) 2) ?_
  refine va_sld hx hb hX hbl hbA hS (vp_in_nI (show 5 * k + 2 < L by omega) (by omega)) dL_law_300 ?_
  refine z_top (lxs (show 5 * k + 2 < 2 ^ 31 by omega)) ?_
  refine lv_aload_n hx hb dL_law_301 rfl (lv_at hl 0 rfl) ?_
  refine lv_iload_n hx hb dL_law_302 rfl (lv_at hl 3 rfl) ?_
  refine lv_iconst (v := nI 3) hx hb dL_law_303 (by decide) ?_
  refine lv_iadd hx hb dL_law_304 ?_
  refine z_top (ixk (5 * k) 3) ?_
  refine va_sld hx hb hX hbl hbA hS (vp_in_nI (show 5 * k + 3 < L by omega) (by omega)) dL_law_305 ?_
  refine z_top (lxs (show 5 * k + 3 < 2 ^ 31 by omega)) ?_
  refine z_callVi ⟨hx, hb, hml, hown, hts⟩ hK (c_X6_turn l dD cI cA q qq n hn12 g fO to gR gD S C (xs (5 * k + 1)) (xs (5 * k + 2)) (xs (5 * k + 3)) r S1 h1) (cwV 3 hts gL_law_X6_turn rfl rfl rfl (by decide +kernel) ⟨Nat.le_of_ble_eq_true rfl, Nat.le_of_ble_eq_true rfl⟩) (zJ_l hP hD hS hA) hS 0 6 rfl rfl rfl rfl hl.1 rfl (Nat.le_of_ble_eq_true rfl) dL_law_306 hcs (fun H locs hP hD hS => ?_)
  have hP : va_P dD vwCl (([zX q g, zP cA (q 3) (zfm qq n), zA cI (q 4) 144 fO, zA cI (q 5) 12 to, zR (q 2) gR, zD (q 1) gD] ++ zPool cI q qq n S1 C) ++ zQ cI q2 g2 F) H := hP
  have hD : va_D (fun x : Nat => s.heap.size ≤ x) (([zX q g, zP cA (q 3) (zfm qq n), zA cI (q 4) 144 fO, zA cI (q 5) 12 to, zR (q 2) gR, zD (q 1) gD] ++ zPool cI q qq n S1 C) ++ zQ cI q2 g2 F) := hD
  refine lv_aload_n hx hb dL_law_309 rfl (lv_at hl 2 rfl) ?_
  refine lv_aload_n hx hb dL_law_310 rfl (lv_at hl 0 rfl) ?_
  refine lv_iload_n hx hb dL_law_311 rfl (lv_at hl 3 rfl) ?_
  refine lv_iconst (v := nI 1) hx hb dL_law_312 (by decide) ?_
  refine lv_iadd hx hb dL_law_313 ?_
  refine z_top (ixk (5 * k) 1) ?_
  refine va_sld hx hb hX hbl hbA hS (vp_in_nI (show 5 * k + 1 < L by omega) (by omega)) dL_law_314 ?_
  refine z_top (lxs (show 5 * k + 1 < 2 ^ 31 by omega)) ?_
  refine lv_aload_n hx hb dL_law_315 rfl (lv_at hl 0 rfl) ?_
  refine lv_iload_n hx hb dL_law_316 rfl (lv_at hl 3 rfl) ?_
  refine lv_iconst (v := nI 2) hx hb dL_law_317 (by decide) ?_
  refine lv_iadd hx hb dL_law_318 ?_
  refine z_top (ixk (5 * k) 2) ?_
  refine va_sld hx hb hX hbl hbA hS (vp_in_nI (show 5 * k + 2 < L by omega) (by omega)) dL_law_319 ?_
  refine z_top (lxs (show 5 * k + 2 < 2 ^ 31 by omega)) ?_
  refine lv_aload_n hx hb dL_law_320 rfl (lv_at hl 0 rfl) ?_
  refine lv_iload_n hx hb dL_law_321 rfl (lv_at hl 3 rfl) ?_
  refine lv_iconst (v := nI 3) hx hb dL_law_322 (by decide) ?_
  refine lv_iadd hx hb dL_law_323 ?_
  refine z_top (ixk (5 * k) 3) ?_
  refine va_sld hx hb hX hbl hbA hS (vp_in_nI (show 5 * k + 3 < L by omega) (by omega)) dL_law_324 ?_
  refine z_top (lxs (show 5 * k + 3 < 2 ^ 31 by omega)) ?_
  refine z_callVi ⟨hx, hb, hml, hown, hts⟩ hK (c_X7_turn l dD cI cA q2 g2 F (xs (5 * k + 1)) (xs (5 * k + 2)) (xs (5 * k + 3)) r F1 h2) (cwV 3 hts gL_law_X7_turn rfl rfl rfl (by decide +kernel) ⟨Nat.le_of_ble_eq_true rfl, Nat.le_of_ble_eq_true rfl⟩) (zJ_r hP hD hS hA) hS 0 7 rfl rfl rfl rfl hl.1 rfl (Nat.le_of_ble_eq_true rfl) dL_law_325 hcs (fun H locs hP hD hS => ?_)
  refine lv_icmp_eq (tgt := 560) hx hb dL_law_328 (by decide) (fun _ => ?_) (fun h => absurd rfl h)
  refine W.widen (k := cells + 6) (n := slots + 58) (by omega) (by omega) ?_
  exact KK _ _ _ _ _ _ _ _ _ _ _ _ _ _ h3 hP hD hS hl
set_option maxHeartbeats 4000000 in
set_option maxRecDepth 100000 in
theorem lc_7 {p : Program} {l : Launch} {e : Env} {s : State} {m : MethodId} {below : List Frame} {meth : Method} {c : Code} {b L : Nat} {xs : Nat → Int32} (C0 : lw_At p s m meth c b L xs) {dD : va_G} {cI cA : ClassId} (hK : zK dD cI cA s) {q q2 : Nat → Nat} {k cells slots : Nat} {Q : State → Prop} (hL : L ≤ 2560) (hk : 5 * k + 5 ≤ L) (hc : cells + 6 ≤ 600000) (hs : slots + 58 ≤ 7302250) (KK : lKK p l e s m below meth c b dD cI cA q q2 k cells slots Q) {n : Nat} {qq : Nat → Nat → Nat} {g fO to gR gD : zF} {S : Nat → Nat → zF} {C : Nat → Option Nat} {g2 : zF} {F : Nat → zF} (hZ : ZR n g fO to gR gD S C g2 F) {H : Heap} {locs : List Loc} (hP : va_P dD vwCl (([zX q g, zP cA (q 3) (zfm qq n), zA cI (q 4) 144 fO, zA cI (q 5) 12 to, zR (q 2) gR, zD (q 1) gD] ++ zPool cI q qq n S C) ++ zQ cI q2 g2 F) H) (hD : va_D (fun x : Nat => s.heap.size ≤ x) (([zX q g, zP cA (q 3) (zfm qq n), zA cI (q 4) 144 fO, zA cI (q 5) 12 to, zR (q 2) gR, zD (q 1) gD] ++ zPool cI q qq n S C) ++ zQ cI q2 g2 F)) (hS : va_S (fun x : Nat => s.heap.size ≤ x) s.heap H locs) {ls : Array Slot} (hl : lv_has ls 4 [(0, .ref b), (1, .ref (q 0)), (2, .ref (q2 0)), (3, .int (nI (5 * k)))]) : W p l e room_1 s m #[Value.ref b] below meth c H locs cells slots Q (F0 m 333 ls []) := by
  obtain ⟨hx, hb, hr, hml, hown, hts0, hX, hbl, hlocks, hgv⟩ := C0
  have hts : ∀ w ∈ wsL_law, w.before #[Value.ref b] s = true := fun w hw => hts0 w (law_in w hw)
  have hown : s.vm.findClass RL = some m.cls := hown
  have hA : ∀ x : Nat, s.heap.size ≤ x → (fun x : Nat => s.heap.size ≤ x) x := fun _ h => h
  have hbA : ¬ (fun x : Nat => s.heap.size ≤ x) b := Nat.not_le.mpr hbl
  have hcs : cells ≤ room_1.cells ∧ slots ≤ room_1.slots := ⟨show cells ≤ 600000 by omega, show slots ≤ 7302250 by omega⟩
  have hn12 : n ≤ 12 := by obtain ⟨_, _, _, _, h, _⟩ := hZ; exact h.1
  obtain ⟨r, gD1, S1, g21, F1, h1, h2, -, h3⟩ := lie_op hZ (xs (5 * k + 1)) (xs (5 * k + 2)) (xs (5 * k + 3))
  refine lv_aload_n hx hb dL_law_333 rfl (lv_at hl 1 rfl) ?_
  refine lv_aload_n hx hb dL_law_334 rfl (lv_at hl 0 rfl) ?_
  refine lv_iload_n hx hb dL_law_335 rfl (lv_at hl 3 rfl) ?_
  refine lv_iconst (v := nI 1) hx hb dL_law_336 (by decide) ?_
  refine lv_iadd hx hb dL_law_337 ?_
  refine z_top (ixk (5 * k) 1) ?_
  refine va_sld hx hb hX hbl hbA hS (vp_in_nI (show 5 * k + 1 < L by omega) (by omega)) dL_law_338 ?_
  refine z_top (lxs (show 5 * k + 1 < 2 ^ 31 by omega)) ?_
  refine lv_aload_n hx hb dL_law_339 rfl (lv_at hl 0 rfl) ?_
  refine lv_iload_n hx hb dL_law_340 rfl (lv_at hl 3 rfl) ?_
  refine lv_iconst (v := nI 2) hx hb dL_law_341 (by decide) ?_
  refine lv_iadd hx hb dL_law_342 ?_
  refine z_top (ixk (5 * k) 2) ?_
  refine va_sld hx hb hX hbl hbA hS (vp_in_nI (show 5 * k + 2 < L by omega) (by omega)) dL_law_343 ?_
  refine z_top (lxs (show 5 * k + 2 < 2 ^ 31 by omega)) ?_
  refine lv_aload_n hx hb dL_law_344 rfl (lv_at hl 0 rfl) ?_
  refine lv_iload_n hx hb dL_law_345 rfl (lv_at hl 3 rfl) ?_
  refine lv_iconst (v := nI 3) hx hb dL_law_346 (by decide) ?_
  refine lv_iadd hx hb dL_law_347 ?_
  refine z_top (ixk (5 * k) 3) ?_
  refine va_sld hx hb hX hbl hbA hS (vp_in_nI (show 5 * k + 3 < L by omega) (by omega)) dL_law_348 ?_
  refine z_top (lxs (show 5 * k + 3 < 2 ^ 31 by omega)) ?_
  refine z_callVi ⟨hx, hb, hml, hown, hts⟩ hK (c_X6_lie l dD cI cA q qq n hn12 g fO to gR gD S C (xs (5 * k + 1)) (xs (5 * k + 2)) (xs (5 * k + 3)) r gD1 S1 h1) (cwV 3 hts gL_law_X6_lie rfl rfl rfl (by decide +kernel) ⟨Nat.le_of_ble_eq_true rfl, Nat.le_of_ble_eq_true rfl⟩) (zJ_l hP hD hS hA) hS 0 6 rfl rfl rfl rfl hl.1 rfl (Nat.le_of_ble_eq_true rfl) dL_law_349 hcs (fun H locs hP hD hS => ?_)
  have hP : va_P dD vwCl (([zX q g, zP cA (q 3) (zfm qq n), zA cI (q 4) 144 fO, zA cI (q 5) 12 to, zR (q 2) gR, zD (q 1) gD1] ++ zPool cI q qq n S1 C) ++ zQ cI q2 g2 F) H := hP
  have hD : va_D (fun x : Nat => s.heap.size ≤ x) (([zX q g, zP cA (q 3) (zfm qq n), zA cI (q 4) 144 fO, zA cI (q 5) 12 to, zR (q 2) gR, zD (q 1) gD1] ++ zPool cI q qq n S1 C) ++ zQ cI q2 g2 F) := hD
  refine lv_aload_n hx hb dL_law_352 rfl (lv_at hl 2 rfl) ?_
  refine lv_aload_n hx hb dL_law_353 rfl (lv_at hl 0 rfl) ?_
  refine lv_iload_n hx hb dL_law_354 rfl (lv_at hl 3 rfl) ?_
  refine lv_iconst (v := nI 1) hx hb dL_law_355 (by decide) ?_
  refine lv_iadd hx hb dL_law_356 ?_
  refine z_top (ixk (5 * k) 1) ?_
  refine va_sld hx hb hX hbl hbA hS (vp_in_nI (show 5 * k + 1 < L by omega) (by omega)) dL_law_357 ?_
  refine z_top (lxs (show 5 * k + 1 < 2 ^ 31 by omega)) ?_
  refine lv_aload_n hx hb dL_law_358 rfl (lv_at hl 0 rfl) ?_
  refine lv_iload_n hx hb dL_law_359 rfl (lv_at hl 3 rfl) ?_
  refine lv_iconst (v := nI 2) hx hb dL_law_360 (by decide) ?_
  refine lv_iadd hx hb dL_law_361 ?_
  refine z_top (ixk (5 * k) 2) ?_
  refine va_sld hx hb hX hbl hbA hS (vp_in_nI (show 5 * k + 2 < L by omega) (by omega)) dL_law_362 ?_
  refine z_top (lxs (show 5 * k + 2 < 2 ^ 31 by omega)) ?_
  refine lv_aload_n hx hb dL_law_363 rfl (lv_at hl 0 rfl) ?_
  refine lv_iload_n hx hb dL_law_364 rfl (lv_at hl 3 rfl) ?_
  refine lv_iconst (v := nI 3) hx hb dL_law_365 (by decide) ?_
  refine lv_iadd hx hb dL_law_366 ?_
  refine z_top (ixk (5 * k) 3) ?_
  refine va_sld hx hb hX hbl hbA hS (vp_in_nI (show 5 * k + 3 < L by omega) (by omega)) dL_law_367 ?_
  refine z_top (lxs (show 5 * k + 3 < 2 ^ 31 by omega)) ?_
  refine z_callVi ⟨hx, hb, hml, hown, hts⟩ hK (c_X7_lie l dD cI cA q2 g2 F (xs (5 * k + 1)) (xs (5 * k + 2)) (xs (5 * k + 3)) r g21 F1 h2) (cwV 3 hts gL_law_X7_lie rfl rfl rfl (by decide +kernel) ⟨Nat.le_of_ble_eq_true rfl, Nat.le_of_ble_eq_true rfl⟩) (zJ_r hP hD hS hA) hS 0 7 rfl rfl rfl rfl hl.1 rfl (Nat.le_of_ble_eq_true rfl) dL_law_368 hcs (fun H locs hP hD hS => ?_)
  refine lv_icmp_eq (tgt := 560) hx hb dL_law_371 (by decide) (fun _ => ?_) (fun h => absurd rfl h)
  refine W.widen (k := cells + 6) (n := slots + 58) (by omega) (by omega) ?_
  exact KK _ _ _ _ _ _ _ _ _ _ _ _ _ _ h3 hP hD hS hl
set_option maxHeartbeats 4000000 in
set_option maxRecDepth 100000 in
theorem lc_8 {p : Program} {l : Launch} {e : Env} {s : State} {m : MethodId} {below : List Frame} {meth : Method} {c : Code} {b L : Nat} {xs : Nat → Int32} (C0 : lw_At p s m meth c b L xs) {dD : va_G} {cI cA : ClassId} (hK : zK dD cI cA s) {q q2 : Nat → Nat} {k cells slots : Nat} {Q : State → Prop} (hL : L ≤ 2560) (hk : 5 * k + 5 ≤ L) (hc : cells + 6 ≤ 600000) (hs : slots + 58 ≤ 7302250) (KK : lKK p l e s m below meth c b dD cI cA q q2 k cells slots Q) {n : Nat} {qq : Nat → Nat → Nat} {g fO to gR gD : zF} {S : Nat → Nat → zF} {C : Nat → Option Nat} {g2 : zF} {F : Nat → zF} (hZ : ZR n g fO to gR gD S C g2 F) {H : Heap} {locs : List Loc} (hP : va_P dD vwCl (([zX q g, zP cA (q 3) (zfm qq n), zA cI (q 4) 144 fO, zA cI (q 5) 12 to, zR (q 2) gR, zD (q 1) gD] ++ zPool cI q qq n S C) ++ zQ cI q2 g2 F) H) (hD : va_D (fun x : Nat => s.heap.size ≤ x) (([zX q g, zP cA (q 3) (zfm qq n), zA cI (q 4) 144 fO, zA cI (q 5) 12 to, zR (q 2) gR, zD (q 1) gD] ++ zPool cI q qq n S C) ++ zQ cI q2 g2 F)) (hS : va_S (fun x : Nat => s.heap.size ≤ x) s.heap H locs) {ls : Array Slot} (hl : lv_has ls 4 [(0, .ref b), (1, .ref (q 0)), (2, .ref (q2 0)), (3, .int (nI (5 * k)))]) : W p l e room_1 s m #[Value.ref b] below meth c H locs cells slots Q (F0 m 376 ls []) := by
  obtain ⟨hx, hb, hr, hml, hown, hts0, hX, hbl, hlocks, hgv⟩ := C0
  have hts : ∀ w ∈ wsL_law, w.before #[Value.ref b] s = true := fun w hw => hts0 w (law_in w hw)
  have hown : s.vm.findClass RL = some m.cls := hown
  have hA : ∀ x : Nat, s.heap.size ≤ x → (fun x : Nat => s.heap.size ≤ x) x := fun _ h => h
  have hbA : ¬ (fun x : Nat => s.heap.size ≤ x) b := Nat.not_le.mpr hbl
  have hcs : cells ≤ room_1.cells ∧ slots ≤ room_1.slots := ⟨show cells ≤ 600000 by omega, show slots ≤ 7302250 by omega⟩
  have hn12 : n ≤ 12 := by obtain ⟨_, _, _, _, h, _⟩ := hZ; exact h.1
  by_cases z : xs (5 * k + 2) = 0
  · obtain ⟨r, gD1, S1, g21, F1, h1, h2, -, h3⟩ := cut_op hZ (xs (5 * k + 1)) 0
    refine lv_aload_n hx hb dL_law_376 rfl (lv_at hl 1 rfl) ?_
    refine lv_aload_n hx hb dL_law_377 rfl (lv_at hl 0 rfl) ?_
    refine lv_iload_n hx hb dL_law_378 rfl (lv_at hl 3 rfl) ?_
    refine lv_iconst (v := nI 1) hx hb dL_law_379 (by decide) ?_
    refine lv_iadd hx hb dL_law_380 ?_
    refine z_top (ixk (5 * k) 1) ?_
    refine va_sld hx hb hX hbl hbA hS (vp_in_nI (show 5 * k + 1 < L by omega) (by omega)) dL_law_381 ?_
    refine z_top (lxs (show 5 * k + 1 < 2 ^ 31 by omega)) ?_
    refine lv_aload_n hx hb dL_law_382 rfl (lv_at hl 0 rfl) ?_
    refine lv_iload_n hx hb dL_law_383 rfl (lv_at hl 3 rfl) ?_
    refine lv_iconst (v := nI 2) hx hb dL_law_384 (by decide) ?_
    refine lv_iadd hx hb dL_law_385 ?_
    refine z_top (ixk (5 * k) 2) ?_
    refine va_sld hx hb hX hbl hbA hS (vp_in_nI (show 5 * k + 2 < L by omega) (by omega)) dL_law_386 ?_
    refine z_top (lxs (show 5 * k + 2 < 2 ^ 31 by omega)) ?_
    refine lv_if_eq (tgt := 394) hx hb dL_law_387 (by decide) (fun _ => ?_) (fun h => absurd z h)
    refine lv_iconst (v := 0) hx hb dL_law_394 (by decide) ?_
    refine z_callVi ⟨hx, hb, hml, hown, hts⟩ hK (c_X6_cut l dD cI cA q qq n hn12 g fO to gR gD S C (xs (5 * k + 1)) 0 r gD1 S1 h1) (cwV 2 hts gL_law_X6_cut rfl rfl rfl (by decide +kernel) ⟨Nat.le_of_ble_eq_true rfl, Nat.le_of_ble_eq_true rfl⟩) (zJ_l hP hD hS hA) hS 0 6 rfl rfl rfl rfl hl.1 rfl (Nat.le_of_ble_eq_true rfl) dL_law_395 hcs (fun H locs hP hD hS => ?_)
    have hP : va_P dD vwCl (([zX q g, zP cA (q 3) (zfm qq n), zA cI (q 4) 144 fO, zA cI (q 5) 12 to, zR (q 2) gR, zD (q 1) gD1] ++ zPool cI q qq n S1 C) ++ zQ cI q2 g2 F) H := hP
    have hD : va_D (fun x : Nat => s.heap.size ≤ x) (([zX q g, zP cA (q 3) (zfm qq n), zA cI (q 4) 144 fO, zA cI (q 5) 12 to, zR (q 2) gR, zD (q 1) gD1] ++ zPool cI q qq n S1 C) ++ zQ cI q2 g2 F) := hD
    refine lv_aload_n hx hb dL_law_398 rfl (lv_at hl 2 rfl) ?_
    refine lv_aload_n hx hb dL_law_399 rfl (lv_at hl 0 rfl) ?_
    refine lv_iload_n hx hb dL_law_400 rfl (lv_at hl 3 rfl) ?_
    refine lv_iconst (v := nI 1) hx hb dL_law_401 (by decide) ?_
    refine lv_iadd hx hb dL_law_402 ?_
    refine z_top (ixk (5 * k) 1) ?_
    refine va_sld hx hb hX hbl hbA hS (vp_in_nI (show 5 * k + 1 < L by omega) (by omega)) dL_law_403 ?_
    refine z_top (lxs (show 5 * k + 1 < 2 ^ 31 by omega)) ?_
    refine lv_aload_n hx hb dL_law_404 rfl (lv_at hl 0 rfl) ?_
    refine lv_iload_n hx hb dL_law_405 rfl (lv_at hl 3 rfl) ?_
    refine lv_iconst (v := nI 2) hx hb dL_law_406 (by decide) ?_
    refine lv_iadd hx hb dL_law_407 ?_
    refine z_top (ixk (5 * k) 2) ?_
    refine va_sld hx hb hX hbl hbA hS (vp_in_nI (show 5 * k + 2 < L by omega) (by omega)) dL_law_408 ?_
    refine z_top (lxs (show 5 * k + 2 < 2 ^ 31 by omega)) ?_
    refine lv_if_eq (tgt := 416) hx hb dL_law_409 (by decide) (fun _ => ?_) (fun h => absurd z h)
    refine lv_iconst (v := 0) hx hb dL_law_416 (by decide) ?_
    refine z_callVi ⟨hx, hb, hml, hown, hts⟩ hK (c_X7_cut l dD cI cA q2 g2 F (xs (5 * k + 1)) 0 r g21 F1 h2) (cwV 2 hts gL_law_X7_cut rfl rfl rfl (by decide +kernel) ⟨Nat.le_of_ble_eq_true rfl, Nat.le_of_ble_eq_true rfl⟩) (zJ_r hP hD hS hA) hS 0 7 rfl rfl rfl rfl hl.1 rfl (Nat.le_of_ble_eq_true rfl) dL_law_417 hcs (fun H locs hP hD hS => ?_)
    refine lv_icmp_eq (tgt := 560) hx hb dL_law_420 (by decide) (fun _ => ?_) (fun h => absurd rfl h)
    refine W.widen (k := cells + 6) (n := slots + 58) (by omega) (by omega) ?_
    exact KK _ _ _ _ _ _ _ _ _ _ _ _ _ _ h3 hP hD hS hl
  · obtain ⟨r, gD1, S1, g21, F1, h1, h2, -, h3⟩ := cut_op hZ (xs (5 * k + 1)) 1
    refine lv_aload_n hx hb dL_law_376 rfl (lv_at hl 1 rfl) ?_
    refine lv_aload_n hx hb dL_law_377 rfl (lv_at hl 0 rfl) ?_
    refine lv_iload_n hx hb dL_law_378 rfl (lv_at hl 3 rfl) ?_
    refine lv_iconst (v := nI 1) hx hb dL_law_379 (by decide) ?_
    refine lv_iadd hx hb dL_law_380 ?_
    refine z_top (ixk (5 * k) 1) ?_
    refine va_sld hx hb hX hbl hbA hS (vp_in_nI (show 5 * k + 1 < L by omega) (by omega)) dL_law_381 ?_
    refine z_top (lxs (show 5 * k + 1 < 2 ^ 31 by omega)) ?_
    refine lv_aload_n hx hb dL_law_382 rfl (lv_at hl 0 rfl) ?_
    refine lv_iload_n hx hb dL_law_383 rfl (lv_at hl 3 rfl) ?_
    refine lv_iconst (v := nI 2) hx hb dL_law_384 (by decide) ?_
    refine lv_iadd hx hb dL_law_385 ?_
    refine z_top (ixk (5 * k) 2) ?_
    refine va_sld hx hb hX hbl hbA hS (vp_in_nI (show 5 * k + 2 < L by omega) (by omega)) dL_law_386 ?_
    refine z_top (lxs (show 5 * k + 2 < 2 ^ 31 by omega)) ?_
    refine lv_if_eq (tgt := 394) hx hb dL_law_387 (by decide) (fun h => absurd h z) (fun _ => ?_)
    refine lv_iconst (v := 1) hx hb dL_law_390 (by decide) ?_
    refine lv_goto (tgt := 395) hx hb dL_law_391 (by decide) ?_
    refine z_callVi ⟨hx, hb, hml, hown, hts⟩ hK (c_X6_cut l dD cI cA q qq n hn12 g fO to gR gD S C (xs (5 * k + 1)) 1 r gD1 S1 h1) (cwV 2 hts gL_law_X6_cut rfl rfl rfl (by decide +kernel) ⟨Nat.le_of_ble_eq_true rfl, Nat.le_of_ble_eq_true rfl⟩) (zJ_l hP hD hS hA) hS 0 6 rfl rfl rfl rfl hl.1 rfl (Nat.le_of_ble_eq_true rfl) dL_law_395 hcs (fun H locs hP hD hS => ?_)
    have hP : va_P dD vwCl (([zX q g, zP cA (q 3) (zfm qq n), zA cI (q 4) 144 fO, zA cI (q 5) 12 to, zR (q 2) gR, zD (q 1) gD1] ++ zPool cI q qq n S1 C) ++ zQ cI q2 g2 F) H := hP
    have hD : va_D (fun x : Nat => s.heap.size ≤ x) (([zX q g, zP cA (q 3) (zfm qq n), zA cI (q 4) 144 fO, zA cI (q 5) 12 to, zR (q 2) gR, zD (q 1) gD1] ++ zPool cI q qq n S1 C) ++ zQ cI q2 g2 F) := hD
    refine lv_aload_n hx hb dL_law_398 rfl (lv_at hl 2 rfl) ?_
    refine lv_aload_n hx hb dL_law_399 rfl (lv_at hl 0 rfl) ?_
    refine lv_iload_n hx hb dL_law_400 rfl (lv_at hl 3 rfl) ?_
    refine lv_iconst (v := nI 1) hx hb dL_law_401 (by decide) ?_
    refine lv_iadd hx hb dL_law_402 ?_
    refine z_top (ixk (5 * k) 1) ?_
    refine va_sld hx hb hX hbl hbA hS (vp_in_nI (show 5 * k + 1 < L by omega) (by omega)) dL_law_403 ?_
    refine z_top (lxs (show 5 * k + 1 < 2 ^ 31 by omega)) ?_
    refine lv_aload_n hx hb dL_law_404 rfl (lv_at hl 0 rfl) ?_
    refine lv_iload_n hx hb dL_law_405 rfl (lv_at hl 3 rfl) ?_
    refine lv_iconst (v := nI 2) hx hb dL_law_406 (by decide) ?_
    refine lv_iadd hx hb dL_law_407 ?_
    refine z_top (ixk (5 * k) 2) ?_
    refine va_sld hx hb hX hbl hbA hS (vp_in_nI (show 5 * k + 2 < L by omega) (by omega)) dL_law_408 ?_
    refine z_top (lxs (show 5 * k + 2 < 2 ^ 31 by omega)) ?_
    refine lv_if_eq (tgt := 416) hx hb dL_law_409 (by decide) (fun h => absurd h z) (fun _ => ?_)
    refine lv_iconst (v := 1) hx hb dL_law_412 (by decide) ?_
    refine lv_goto (tgt := 417) hx hb dL_law_413 (by decide) ?_
    refine z_callVi ⟨hx, hb, hml, hown, hts⟩ hK (c_X7_cut l dD cI cA q2 g2 F (xs (5 * k + 1)) 1 r g21 F1 h2) (cwV 2 hts gL_law_X7_cut rfl rfl rfl (by decide +kernel) ⟨Nat.le_of_ble_eq_true rfl, Nat.le_of_ble_eq_true rfl⟩) (zJ_r hP hD hS hA) hS 0 7 rfl rfl rfl rfl hl.1 rfl (Nat.le_of_ble_eq_true rfl) dL_law_417 hcs (fun H locs hP hD hS => ?_)
    refine lv_icmp_eq (tgt := 560) hx hb dL_law_420 (by decide) (fun _ => ?_) (fun h => absurd rfl h)
    refine W.widen (k := cells + 6) (n := slots + 58) (by omega) (by omega) ?_
    exact KK _ _ _ _ _ _ _ _ _ _ _ _ _ _ h3 hP hD hS hl
set_option maxHeartbeats 4000000 in
set_option maxRecDepth 100000 in
theorem lc_9 {p : Program} {l : Launch} {e : Env} {s : State} {m : MethodId} {below : List Frame} {meth : Method} {c : Code} {b L : Nat} {xs : Nat → Int32} (C0 : lw_At p s m meth c b L xs) {dD : va_G} {cI cA : ClassId} (hK : zK dD cI cA s) {q q2 : Nat → Nat} {k cells slots : Nat} {Q : State → Prop} (hL : L ≤ 2560) (hk : 5 * k + 5 ≤ L) (hc : cells + 6 ≤ 600000) (hs : slots + 58 ≤ 7302250) (KK : lKK p l e s m below meth c b dD cI cA q q2 k cells slots Q) {n : Nat} {qq : Nat → Nat → Nat} {g fO to gR gD : zF} {S : Nat → Nat → zF} {C : Nat → Option Nat} {g2 : zF} {F : Nat → zF} (hZ : ZR n g fO to gR gD S C g2 F) {H : Heap} {locs : List Loc} (hP : va_P dD vwCl (([zX q g, zP cA (q 3) (zfm qq n), zA cI (q 4) 144 fO, zA cI (q 5) 12 to, zR (q 2) gR, zD (q 1) gD] ++ zPool cI q qq n S C) ++ zQ cI q2 g2 F) H) (hD : va_D (fun x : Nat => s.heap.size ≤ x) (([zX q g, zP cA (q 3) (zfm qq n), zA cI (q 4) 144 fO, zA cI (q 5) 12 to, zR (q 2) gR, zD (q 1) gD] ++ zPool cI q qq n S C) ++ zQ cI q2 g2 F)) (hS : va_S (fun x : Nat => s.heap.size ≤ x) s.heap H locs) {ls : Array Slot} (hl : lv_has ls 4 [(0, .ref b), (1, .ref (q 0)), (2, .ref (q2 0)), (3, .int (nI (5 * k)))]) : W p l e room_1 s m #[Value.ref b] below meth c H locs cells slots Q (F0 m 425 ls []) := by
  obtain ⟨hx, hb, hr, hml, hown, hts0, hX, hbl, hlocks, hgv⟩ := C0
  have hts : ∀ w ∈ wsL_law, w.before #[Value.ref b] s = true := fun w hw => hts0 w (law_in w hw)
  have hown : s.vm.findClass RL = some m.cls := hown
  have hA : ∀ x : Nat, s.heap.size ≤ x → (fun x : Nat => s.heap.size ≤ x) x := fun _ h => h
  have hbA : ¬ (fun x : Nat => s.heap.size ≤ x) b := Nat.not_le.mpr hbl
  have hcs : cells ≤ room_1.cells ∧ slots ≤ room_1.slots := ⟨show cells ≤ 600000 by omega, show slots ≤ 7302250 by omega⟩
  have hn12 : n ≤ 12 := by obtain ⟨_, _, _, _, h, _⟩ := hZ; exact h.1
  obtain ⟨r, g1, gD1, S1, C1, g21, F1, h1, h2, h3⟩ := ticks_op hZ (xs (5 * k + 1))
  refine lv_aload_n hx hb dL_law_425 rfl (lv_at hl 1 rfl) ?_
  refine lv_aload_n hx hb dL_law_426 rfl (lv_at hl 0 rfl) ?_
  refine lv_iload_n hx hb dL_law_427 rfl (lv_at hl 3 rfl) ?_
  refine lv_iconst (v := nI 1) hx hb dL_law_428 (by decide) ?_
  refine lv_iadd hx hb dL_law_429 ?_
  refine z_top (ixk (5 * k) 1) ?_
  refine va_sld hx hb hX hbl hbA hS (vp_in_nI (show 5 * k + 1 < L by omega) (by omega)) dL_law_430 ?_
  refine z_top (lxs (show 5 * k + 1 < 2 ^ 31 by omega)) ?_
  refine z_callVi ⟨hx, hb, hml, hown, hts⟩ hK (c_X6_ticks l dD cI cA q qq n hn12 g fO to gR gD S C (xs (5 * k + 1)) r g1 gD1 S1 C1 h1) (cwV 1 hts gL_law_X6_ticks rfl rfl rfl (by decide +kernel) ⟨Nat.le_of_ble_eq_true rfl, Nat.le_of_ble_eq_true rfl⟩) (zJ_l hP hD hS hA) hS 0 6 rfl rfl rfl rfl hl.1 rfl (Nat.le_of_ble_eq_true rfl) dL_law_431 hcs (fun H locs hP hD hS => ?_)
  have hP : va_P dD vwCl (([zX q g1, zP cA (q 3) (zfm qq n), zA cI (q 4) 144 fO, zA cI (q 5) 12 to, zR (q 2) gR, zD (q 1) gD1] ++ zPool cI q qq n S1 C1) ++ zQ cI q2 g2 F) H := hP
  have hD : va_D (fun x : Nat => s.heap.size ≤ x) (([zX q g1, zP cA (q 3) (zfm qq n), zA cI (q 4) 144 fO, zA cI (q 5) 12 to, zR (q 2) gR, zD (q 1) gD1] ++ zPool cI q qq n S1 C1) ++ zQ cI q2 g2 F) := hD
  refine lv_aload_n hx hb dL_law_434 rfl (lv_at hl 2 rfl) ?_
  refine lv_aload_n hx hb dL_law_435 rfl (lv_at hl 0 rfl) ?_
  refine lv_iload_n hx hb dL_law_436 rfl (lv_at hl 3 rfl) ?_
  refine lv_iconst (v := nI 1) hx hb dL_law_437 (by decide) ?_
  refine lv_iadd hx hb dL_law_438 ?_
  refine z_top (ixk (5 * k) 1) ?_
  refine va_sld hx hb hX hbl hbA hS (vp_in_nI (show 5 * k + 1 < L by omega) (by omega)) dL_law_439 ?_
  refine z_top (lxs (show 5 * k + 1 < 2 ^ 31 by omega)) ?_
  refine z_callVi ⟨hx, hb, hml, hown, hts⟩ hK (c_X7_ticks l dD cI cA q2 g2 F (xs (5 * k + 1)) r g21 F1 h2) (cwV 1 hts gL_law_X7_ticks rfl rfl rfl (by decide +kernel) ⟨Nat.le_of_ble_eq_true rfl, Nat.le_of_ble_eq_true rfl⟩) (zJ_r hP hD hS hA) hS 0 7 rfl rfl rfl rfl hl.1 rfl (Nat.le_of_ble_eq_true rfl) dL_law_440 hcs (fun H locs hP hD hS => ?_)
  refine lv_icmp_eq (tgt := 560) hx hb dL_law_443 (by decide) (fun _ => ?_) (fun h => absurd rfl h)
  refine W.widen (k := cells + 6) (n := slots + 58) (by omega) (by omega) ?_
  exact KK _ _ _ _ _ _ _ _ _ _ _ _ _ _ h3 hP hD hS hl
set_option maxHeartbeats 4000000 in
set_option maxRecDepth 100000 in
theorem lc_10 {p : Program} {l : Launch} {e : Env} {s : State} {m : MethodId} {below : List Frame} {meth : Method} {c : Code} {b L : Nat} {xs : Nat → Int32} (C0 : lw_At p s m meth c b L xs) {dD : va_G} {cI cA : ClassId} (hK : zK dD cI cA s) {q q2 : Nat → Nat} {k cells slots : Nat} {Q : State → Prop} (hL : L ≤ 2560) (hk : 5 * k + 5 ≤ L) (hc : cells + 6 ≤ 600000) (hs : slots + 58 ≤ 7302250) (KK : lKK p l e s m below meth c b dD cI cA q q2 k cells slots Q) {n : Nat} {qq : Nat → Nat → Nat} {g fO to gR gD : zF} {S : Nat → Nat → zF} {C : Nat → Option Nat} {g2 : zF} {F : Nat → zF} (hZ : ZR n g fO to gR gD S C g2 F) {H : Heap} {locs : List Loc} (hP : va_P dD vwCl (([zX q g, zP cA (q 3) (zfm qq n), zA cI (q 4) 144 fO, zA cI (q 5) 12 to, zR (q 2) gR, zD (q 1) gD] ++ zPool cI q qq n S C) ++ zQ cI q2 g2 F) H) (hD : va_D (fun x : Nat => s.heap.size ≤ x) (([zX q g, zP cA (q 3) (zfm qq n), zA cI (q 4) 144 fO, zA cI (q 5) 12 to, zR (q 2) gR, zD (q 1) gD] ++ zPool cI q qq n S C) ++ zQ cI q2 g2 F)) (hS : va_S (fun x : Nat => s.heap.size ≤ x) s.heap H locs) {ls : Array Slot} (hl : lv_has ls 4 [(0, .ref b), (1, .ref (q 0)), (2, .ref (q2 0)), (3, .int (nI (5 * k)))]) : W p l e room_1 s m #[Value.ref b] below meth c H locs cells slots Q (F0 m 448 ls []) := by
  obtain ⟨hx, hb, hr, hml, hown, hts0, hX, hbl, hlocks, hgv⟩ := C0
  have hts : ∀ w ∈ wsL_law, w.before #[Value.ref b] s = true := fun w hw => hts0 w (law_in w hw)
  have hown : s.vm.findClass RL = some m.cls := hown
  have hA : ∀ x : Nat, s.heap.size ≤ x → (fun x : Nat => s.heap.size ≤ x) x := fun _ h => h
  have hbA : ¬ (fun x : Nat => s.heap.size ≤ x) b := Nat.not_le.mpr hbl
  have hcs : cells ≤ room_1.cells ∧ slots ≤ room_1.slots := ⟨show cells ≤ 600000 by omega, show slots ≤ 7302250 by omega⟩
  have hn12 : n ≤ 12 := by obtain ⟨_, _, _, _, h, _⟩ := hZ; exact h.1
  obtain ⟨r, h1, h2⟩ := mof_op hZ (xs (5 * k + 1)) (xs (5 * k + 2))
  refine lv_aload_n hx hb dL_law_448 rfl (lv_at hl 1 rfl) ?_
  refine lv_aload_n hx hb dL_law_449 rfl (lv_at hl 0 rfl) ?_
  refine lv_iload_n hx hb dL_law_450 rfl (lv_at hl 3 rfl) ?_
  refine lv_iconst (v := nI 1) hx hb dL_law_451 (by decide) ?_
  refine lv_iadd hx hb dL_law_452 ?_
  refine z_top (ixk (5 * k) 1) ?_
  refine va_sld hx hb hX hbl hbA hS (vp_in_nI (show 5 * k + 1 < L by omega) (by omega)) dL_law_453 ?_
  refine z_top (lxs (show 5 * k + 1 < 2 ^ 31 by omega)) ?_
  refine lv_aload_n hx hb dL_law_454 rfl (lv_at hl 0 rfl) ?_
  refine lv_iload_n hx hb dL_law_455 rfl (lv_at hl 3 rfl) ?_
  refine lv_iconst (v := nI 2) hx hb dL_law_456 (by decide) ?_
  refine lv_iadd hx hb dL_law_457 ?_
  refine z_top (ixk (5 * k) 2) ?_
  refine va_sld hx hb hX hbl hbA hS (vp_in_nI (show 5 * k + 2 < L by omega) (by omega)) dL_law_458 ?_
  refine z_top (lxs (show 5 * k + 2 < 2 ^ 31 by omega)) ?_
  refine z_callVi ⟨hx, hb, hml, hown, hts⟩ hK (c_X6_machineOf l dD cI cA q qq n hn12 g fO to gR gD S C (xs (5 * k + 1)) (xs (5 * k + 2)) r h1) (cwV 2 hts gL_law_X6_machineOf rfl rfl rfl (by decide +kernel) ⟨Nat.le_of_ble_eq_true rfl, Nat.le_of_ble_eq_true rfl⟩) (zJ_l hP hD hS hA) hS 0 6 rfl rfl rfl rfl hl.1 rfl (Nat.le_of_ble_eq_true rfl) dL_law_459 hcs (fun H locs hP hD hS => ?_)
  have hP : va_P dD vwCl (([zX q g, zP cA (q 3) (zfm qq n), zA cI (q 4) 144 fO, zA cI (q 5) 12 to, zR (q 2) gR, zD (q 1) gD] ++ zPool cI q qq n S C) ++ zQ cI q2 g2 F) H := hP
  have hD : va_D (fun x : Nat => s.heap.size ≤ x) (([zX q g, zP cA (q 3) (zfm qq n), zA cI (q 4) 144 fO, zA cI (q 5) 12 to, zR (q 2) gR, zD (q 1) gD] ++ zPool cI q qq n S C) ++ zQ cI q2 g2 F) := hD
  refine lv_aload_n hx hb dL_law_462 rfl (lv_at hl 2 rfl) ?_
  refine lv_aload_n hx hb dL_law_463 rfl (lv_at hl 0 rfl) ?_
  refine lv_iload_n hx hb dL_law_464 rfl (lv_at hl 3 rfl) ?_
  refine lv_iconst (v := nI 1) hx hb dL_law_465 (by decide) ?_
  refine lv_iadd hx hb dL_law_466 ?_
  refine z_top (ixk (5 * k) 1) ?_
  refine va_sld hx hb hX hbl hbA hS (vp_in_nI (show 5 * k + 1 < L by omega) (by omega)) dL_law_467 ?_
  refine z_top (lxs (show 5 * k + 1 < 2 ^ 31 by omega)) ?_
  refine lv_aload_n hx hb dL_law_468 rfl (lv_at hl 0 rfl) ?_
  refine lv_iload_n hx hb dL_law_469 rfl (lv_at hl 3 rfl) ?_
  refine lv_iconst (v := nI 2) hx hb dL_law_470 (by decide) ?_
  refine lv_iadd hx hb dL_law_471 ?_
  refine z_top (ixk (5 * k) 2) ?_
  refine va_sld hx hb hX hbl hbA hS (vp_in_nI (show 5 * k + 2 < L by omega) (by omega)) dL_law_472 ?_
  refine z_top (lxs (show 5 * k + 2 < 2 ^ 31 by omega)) ?_
  refine z_callVi ⟨hx, hb, hml, hown, hts⟩ hK (c_X7_machineOf l dD cI cA q2 g2 F (xs (5 * k + 1)) (xs (5 * k + 2)) r h2) (cwV 2 hts gL_law_X7_machineOf rfl rfl rfl (by decide +kernel) ⟨Nat.le_of_ble_eq_true rfl, Nat.le_of_ble_eq_true rfl⟩) (zJ_r hP hD hS hA) hS 0 7 rfl rfl rfl rfl hl.1 rfl (Nat.le_of_ble_eq_true rfl) dL_law_473 hcs (fun H locs hP hD hS => ?_)
  refine lv_icmp_eq (tgt := 560) hx hb dL_law_476 (by decide) (fun _ => ?_) (fun h => absurd rfl h)
  refine W.widen (k := cells + 6) (n := slots + 58) (by omega) (by omega) ?_
  exact KK _ _ _ _ _ _ _ _ _ _ _ _ _ _ hZ hP hD hS hl
set_option maxHeartbeats 4000000 in
set_option maxRecDepth 100000 in
theorem lc_11 {p : Program} {l : Launch} {e : Env} {s : State} {m : MethodId} {below : List Frame} {meth : Method} {c : Code} {b L : Nat} {xs : Nat → Int32} (C0 : lw_At p s m meth c b L xs) {dD : va_G} {cI cA : ClassId} (hK : zK dD cI cA s) {q q2 : Nat → Nat} {k cells slots : Nat} {Q : State → Prop} (hL : L ≤ 2560) (hk : 5 * k + 5 ≤ L) (hc : cells + 6 ≤ 600000) (hs : slots + 58 ≤ 7302250) (KK : lKK p l e s m below meth c b dD cI cA q q2 k cells slots Q) {n : Nat} {qq : Nat → Nat → Nat} {g fO to gR gD : zF} {S : Nat → Nat → zF} {C : Nat → Option Nat} {g2 : zF} {F : Nat → zF} (hZ : ZR n g fO to gR gD S C g2 F) {H : Heap} {locs : List Loc} (hP : va_P dD vwCl (([zX q g, zP cA (q 3) (zfm qq n), zA cI (q 4) 144 fO, zA cI (q 5) 12 to, zR (q 2) gR, zD (q 1) gD] ++ zPool cI q qq n S C) ++ zQ cI q2 g2 F) H) (hD : va_D (fun x : Nat => s.heap.size ≤ x) (([zX q g, zP cA (q 3) (zfm qq n), zA cI (q 4) 144 fO, zA cI (q 5) 12 to, zR (q 2) gR, zD (q 1) gD] ++ zPool cI q qq n S C) ++ zQ cI q2 g2 F)) (hS : va_S (fun x : Nat => s.heap.size ≤ x) s.heap H locs) {ls : Array Slot} (hl : lv_has ls 4 [(0, .ref b), (1, .ref (q 0)), (2, .ref (q2 0)), (3, .int (nI (5 * k)))]) : W p l e room_1 s m #[Value.ref b] below meth c H locs cells slots Q (F0 m 481 ls []) := by
  obtain ⟨hx, hb, hr, hml, hown, hts0, hX, hbl, hlocks, hgv⟩ := C0
  have hts : ∀ w ∈ wsL_law, w.before #[Value.ref b] s = true := fun w hw => hts0 w (law_in w hw)
  have hown : s.vm.findClass RL = some m.cls := hown
  have hA : ∀ x : Nat, s.heap.size ≤ x → (fun x : Nat => s.heap.size ≤ x) x := fun _ h => h
  have hbA : ¬ (fun x : Nat => s.heap.size ≤ x) b := Nat.not_le.mpr hbl
  have hcs : cells ≤ room_1.cells ∧ slots ≤ room_1.slots := ⟨show cells ≤ 600000 by omega, show slots ≤ 7302250 by omega⟩
  have hn12 : n ≤ 12 := by obtain ⟨_, _, _, _, h, _⟩ := hZ; exact h.1
  obtain ⟨r, h1, h2⟩ := data_op hZ (xs (5 * k + 1)) (xs (5 * k + 2))
  refine lv_aload_n hx hb dL_law_481 rfl (lv_at hl 1 rfl) ?_
  refine lv_aload_n hx hb dL_law_482 rfl (lv_at hl 0 rfl) ?_
  refine lv_iload_n hx hb dL_law_483 rfl (lv_at hl 3 rfl) ?_
  refine lv_iconst (v := nI 1) hx hb dL_law_484 (by decide) ?_
  refine lv_iadd hx hb dL_law_485 ?_
  refine z_top (ixk (5 * k) 1) ?_
  refine va_sld hx hb hX hbl hbA hS (vp_in_nI (show 5 * k + 1 < L by omega) (by omega)) dL_law_486 ?_
  refine z_top (lxs (show 5 * k + 1 < 2 ^ 31 by omega)) ?_
  refine lv_aload_n hx hb dL_law_487 rfl (lv_at hl 0 rfl) ?_
  refine lv_iload_n hx hb dL_law_488 rfl (lv_at hl 3 rfl) ?_
  refine lv_iconst (v := nI 2) hx hb dL_law_489 (by decide) ?_
  refine lv_iadd hx hb dL_law_490 ?_
  refine z_top (ixk (5 * k) 2) ?_
  refine va_sld hx hb hX hbl hbA hS (vp_in_nI (show 5 * k + 2 < L by omega) (by omega)) dL_law_491 ?_
  refine z_top (lxs (show 5 * k + 2 < 2 ^ 31 by omega)) ?_
  refine z_callVi ⟨hx, hb, hml, hown, hts⟩ hK (c_X6_data l dD cI cA q qq n hn12 g fO to gR gD S C (xs (5 * k + 1)) (xs (5 * k + 2)) r h1) (cwV 2 hts gL_law_X6_data rfl rfl rfl (by decide +kernel) ⟨Nat.le_of_ble_eq_true rfl, Nat.le_of_ble_eq_true rfl⟩) (zJ_l hP hD hS hA) hS 0 6 rfl rfl rfl rfl hl.1 rfl (Nat.le_of_ble_eq_true rfl) dL_law_492 hcs (fun H locs hP hD hS => ?_)
  have hP : va_P dD vwCl (([zX q g, zP cA (q 3) (zfm qq n), zA cI (q 4) 144 fO, zA cI (q 5) 12 to, zR (q 2) gR, zD (q 1) gD] ++ zPool cI q qq n S C) ++ zQ cI q2 g2 F) H := hP
  have hD : va_D (fun x : Nat => s.heap.size ≤ x) (([zX q g, zP cA (q 3) (zfm qq n), zA cI (q 4) 144 fO, zA cI (q 5) 12 to, zR (q 2) gR, zD (q 1) gD] ++ zPool cI q qq n S C) ++ zQ cI q2 g2 F) := hD
  refine lv_aload_n hx hb dL_law_495 rfl (lv_at hl 2 rfl) ?_
  refine lv_aload_n hx hb dL_law_496 rfl (lv_at hl 0 rfl) ?_
  refine lv_iload_n hx hb dL_law_497 rfl (lv_at hl 3 rfl) ?_
  refine lv_iconst (v := nI 1) hx hb dL_law_498 (by decide) ?_
  refine lv_iadd hx hb dL_law_499 ?_
  refine z_top (ixk (5 * k) 1) ?_
  refine va_sld hx hb hX hbl hbA hS (vp_in_nI (show 5 * k + 1 < L by omega) (by omega)) dL_law_500 ?_
  refine z_top (lxs (show 5 * k + 1 < 2 ^ 31 by omega)) ?_
  refine lv_aload_n hx hb dL_law_501 rfl (lv_at hl 0 rfl) ?_
  refine lv_iload_n hx hb dL_law_502 rfl (lv_at hl 3 rfl) ?_
  refine lv_iconst (v := nI 2) hx hb dL_law_503 (by decide) ?_
  refine lv_iadd hx hb dL_law_504 ?_
  refine z_top (ixk (5 * k) 2) ?_
  refine va_sld hx hb hX hbl hbA hS (vp_in_nI (show 5 * k + 2 < L by omega) (by omega)) dL_law_505 ?_
  refine z_top (lxs (show 5 * k + 2 < 2 ^ 31 by omega)) ?_
  refine z_callVi ⟨hx, hb, hml, hown, hts⟩ hK (c_X7_data l dD cI cA q2 g2 F (xs (5 * k + 1)) (xs (5 * k + 2)) r h2) (cwV 2 hts gL_law_X7_data rfl rfl rfl (by decide +kernel) ⟨Nat.le_of_ble_eq_true rfl, Nat.le_of_ble_eq_true rfl⟩) (zJ_r hP hD hS hA) hS 0 7 rfl rfl rfl rfl hl.1 rfl (Nat.le_of_ble_eq_true rfl) dL_law_506 hcs (fun H locs hP hD hS => ?_)
  refine lv_icmp_eq (tgt := 560) hx hb dL_law_509 (by decide) (fun _ => ?_) (fun h => absurd rfl h)
  refine W.widen (k := cells + 6) (n := slots + 58) (by omega) (by omega) ?_
  exact KK _ _ _ _ _ _ _ _ _ _ _ _ _ _ hZ hP hD hS hl
set_option maxHeartbeats 4000000 in
set_option maxRecDepth 100000 in
theorem lc_12 {p : Program} {l : Launch} {e : Env} {s : State} {m : MethodId} {below : List Frame} {meth : Method} {c : Code} {b L : Nat} {xs : Nat → Int32} (C0 : lw_At p s m meth c b L xs) {dD : va_G} {cI cA : ClassId} (hK : zK dD cI cA s) {q q2 : Nat → Nat} {k cells slots : Nat} {Q : State → Prop} (hL : L ≤ 2560) (hk : 5 * k + 5 ≤ L) (hc : cells + 6 ≤ 600000) (hs : slots + 58 ≤ 7302250) (KK : lKK p l e s m below meth c b dD cI cA q q2 k cells slots Q) {n : Nat} {qq : Nat → Nat → Nat} {g fO to gR gD : zF} {S : Nat → Nat → zF} {C : Nat → Option Nat} {g2 : zF} {F : Nat → zF} (hZ : ZR n g fO to gR gD S C g2 F) {H : Heap} {locs : List Loc} (hP : va_P dD vwCl (([zX q g, zP cA (q 3) (zfm qq n), zA cI (q 4) 144 fO, zA cI (q 5) 12 to, zR (q 2) gR, zD (q 1) gD] ++ zPool cI q qq n S C) ++ zQ cI q2 g2 F) H) (hD : va_D (fun x : Nat => s.heap.size ≤ x) (([zX q g, zP cA (q 3) (zfm qq n), zA cI (q 4) 144 fO, zA cI (q 5) 12 to, zR (q 2) gR, zD (q 1) gD] ++ zPool cI q qq n S C) ++ zQ cI q2 g2 F)) (hS : va_S (fun x : Nat => s.heap.size ≤ x) s.heap H locs) {ls : Array Slot} (hl : lv_has ls 4 [(0, .ref b), (1, .ref (q 0)), (2, .ref (q2 0)), (3, .int (nI (5 * k)))]) : W p l e room_1 s m #[Value.ref b] below meth c H locs cells slots Q (F0 m 514 ls []) := by
  obtain ⟨hx, hb, hr, hml, hown, hts0, hX, hbl, hlocks, hgv⟩ := C0
  have hts : ∀ w ∈ wsL_law, w.before #[Value.ref b] s = true := fun w hw => hts0 w (law_in w hw)
  have hown : s.vm.findClass RL = some m.cls := hown
  have hA : ∀ x : Nat, s.heap.size ≤ x → (fun x : Nat => s.heap.size ≤ x) x := fun _ h => h
  have hbA : ¬ (fun x : Nat => s.heap.size ≤ x) b := Nat.not_le.mpr hbl
  have hcs : cells ≤ room_1.cells ∧ slots ≤ room_1.slots := ⟨show cells ≤ 600000 by omega, show slots ≤ 7302250 by omega⟩
  have hn12 : n ≤ 12 := by obtain ⟨_, _, _, _, h, _⟩ := hZ; exact h.1
  obtain ⟨r, h1, h2⟩ := sum_op hZ (xs (5 * k + 1))
  refine lv_aload_n hx hb dL_law_514 rfl (lv_at hl 1 rfl) ?_
  refine lv_aload_n hx hb dL_law_515 rfl (lv_at hl 0 rfl) ?_
  refine lv_iload_n hx hb dL_law_516 rfl (lv_at hl 3 rfl) ?_
  refine lv_iconst (v := nI 1) hx hb dL_law_517 (by decide) ?_
  refine lv_iadd hx hb dL_law_518 ?_
  refine z_top (ixk (5 * k) 1) ?_
  refine va_sld hx hb hX hbl hbA hS (vp_in_nI (show 5 * k + 1 < L by omega) (by omega)) dL_law_519 ?_
  refine z_top (lxs (show 5 * k + 1 < 2 ^ 31 by omega)) ?_
  refine z_callVi ⟨hx, hb, hml, hown, hts⟩ hK (c_X6_sum l dD cI cA q qq n hn12 g fO to gR gD S C (xs (5 * k + 1)) r h1) (cwV 1 hts gL_law_X6_sum rfl rfl rfl (by decide +kernel) ⟨Nat.le_of_ble_eq_true rfl, Nat.le_of_ble_eq_true rfl⟩) (zJ_l hP hD hS hA) hS 0 6 rfl rfl rfl rfl hl.1 rfl (Nat.le_of_ble_eq_true rfl) dL_law_520 hcs (fun H locs hP hD hS => ?_)
  have hP : va_P dD vwCl (([zX q g, zP cA (q 3) (zfm qq n), zA cI (q 4) 144 fO, zA cI (q 5) 12 to, zR (q 2) gR, zD (q 1) gD] ++ zPool cI q qq n S C) ++ zQ cI q2 g2 F) H := hP
  have hD : va_D (fun x : Nat => s.heap.size ≤ x) (([zX q g, zP cA (q 3) (zfm qq n), zA cI (q 4) 144 fO, zA cI (q 5) 12 to, zR (q 2) gR, zD (q 1) gD] ++ zPool cI q qq n S C) ++ zQ cI q2 g2 F) := hD
  refine lv_aload_n hx hb dL_law_523 rfl (lv_at hl 2 rfl) ?_
  refine lv_aload_n hx hb dL_law_524 rfl (lv_at hl 0 rfl) ?_
  refine lv_iload_n hx hb dL_law_525 rfl (lv_at hl 3 rfl) ?_
  refine lv_iconst (v := nI 1) hx hb dL_law_526 (by decide) ?_
  refine lv_iadd hx hb dL_law_527 ?_
  refine z_top (ixk (5 * k) 1) ?_
  refine va_sld hx hb hX hbl hbA hS (vp_in_nI (show 5 * k + 1 < L by omega) (by omega)) dL_law_528 ?_
  refine z_top (lxs (show 5 * k + 1 < 2 ^ 31 by omega)) ?_
  refine z_callVi ⟨hx, hb, hml, hown, hts⟩ hK (c_X7_sum l dD cI cA q2 g2 F (xs (5 * k + 1)) r h2) (cwV 1 hts gL_law_X7_sum rfl rfl rfl (by decide +kernel) ⟨Nat.le_of_ble_eq_true rfl, Nat.le_of_ble_eq_true rfl⟩) (zJ_r hP hD hS hA) hS 0 7 rfl rfl rfl rfl hl.1 rfl (Nat.le_of_ble_eq_true rfl) dL_law_529 hcs (fun H locs hP hD hS => ?_)
  refine lv_icmp_eq (tgt := 560) hx hb dL_law_532 (by decide) (fun _ => ?_) (fun h => absurd rfl h)
  refine W.widen (k := cells + 6) (n := slots + 58) (by omega) (by omega) ?_
  exact KK _ _ _ _ _ _ _ _ _ _ _ _ _ _ hZ hP hD hS hl
set_option maxHeartbeats 4000000 in
set_option maxRecDepth 100000 in
theorem lc_13 {p : Program} {l : Launch} {e : Env} {s : State} {m : MethodId} {below : List Frame} {meth : Method} {c : Code} {b L : Nat} {xs : Nat → Int32} (C0 : lw_At p s m meth c b L xs) {dD : va_G} {cI cA : ClassId} (hK : zK dD cI cA s) {q q2 : Nat → Nat} {k cells slots : Nat} {Q : State → Prop} (hL : L ≤ 2560) (hk : 5 * k + 5 ≤ L) (hc : cells + 6 ≤ 600000) (hs : slots + 58 ≤ 7302250) (KK : lKK p l e s m below meth c b dD cI cA q q2 k cells slots Q) {n : Nat} {qq : Nat → Nat → Nat} {g fO to gR gD : zF} {S : Nat → Nat → zF} {C : Nat → Option Nat} {g2 : zF} {F : Nat → zF} (hZ : ZR n g fO to gR gD S C g2 F) {H : Heap} {locs : List Loc} (hP : va_P dD vwCl (([zX q g, zP cA (q 3) (zfm qq n), zA cI (q 4) 144 fO, zA cI (q 5) 12 to, zR (q 2) gR, zD (q 1) gD] ++ zPool cI q qq n S C) ++ zQ cI q2 g2 F) H) (hD : va_D (fun x : Nat => s.heap.size ≤ x) (([zX q g, zP cA (q 3) (zfm qq n), zA cI (q 4) 144 fO, zA cI (q 5) 12 to, zR (q 2) gR, zD (q 1) gD] ++ zPool cI q qq n S C) ++ zQ cI q2 g2 F)) (hS : va_S (fun x : Nat => s.heap.size ≤ x) s.heap H locs) {ls : Array Slot} (hl : lv_has ls 4 [(0, .ref b), (1, .ref (q 0)), (2, .ref (q2 0)), (3, .int (nI (5 * k)))]) : W p l e room_1 s m #[Value.ref b] below meth c H locs cells slots Q (F0 m 537 ls []) := by
  obtain ⟨hx, hb, hr, hml, hown, hts0, hX, hbl, hlocks, hgv⟩ := C0
  have hts : ∀ w ∈ wsL_law, w.before #[Value.ref b] s = true := fun w hw => hts0 w (law_in w hw)
  have hown : s.vm.findClass RL = some m.cls := hown
  have hA : ∀ x : Nat, s.heap.size ≤ x → (fun x : Nat => s.heap.size ≤ x) x := fun _ h => h
  have hbA : ¬ (fun x : Nat => s.heap.size ≤ x) b := Nat.not_le.mpr hbl
  have hcs : cells ≤ room_1.cells ∧ slots ≤ room_1.slots := ⟨show cells ≤ 600000 by omega, show slots ≤ 7302250 by omega⟩
  have hn12 : n ≤ 12 := by obtain ⟨_, _, _, _, h, _⟩ := hZ; exact h.1
  obtain ⟨r, h1, h2⟩ := about_op hZ (xs (5 * k + 1))
  refine lv_aload_n hx hb dL_law_537 rfl (lv_at hl 1 rfl) ?_
  refine lv_aload_n hx hb dL_law_538 rfl (lv_at hl 0 rfl) ?_
  refine lv_iload_n hx hb dL_law_539 rfl (lv_at hl 3 rfl) ?_
  refine lv_iconst (v := nI 1) hx hb dL_law_540 (by decide) ?_
  refine lv_iadd hx hb dL_law_541 ?_
  refine z_top (ixk (5 * k) 1) ?_
  refine va_sld hx hb hX hbl hbA hS (vp_in_nI (show 5 * k + 1 < L by omega) (by omega)) dL_law_542 ?_
  refine z_top (lxs (show 5 * k + 1 < 2 ^ 31 by omega)) ?_
  refine z_callVi ⟨hx, hb, hml, hown, hts⟩ hK (c_X6_about l dD cI cA q qq n hn12 g fO to gR gD S C (xs (5 * k + 1)) r h1) (cwV 1 hts gL_law_X6_about rfl rfl rfl (by decide +kernel) ⟨Nat.le_of_ble_eq_true rfl, Nat.le_of_ble_eq_true rfl⟩) (zJ_l hP hD hS hA) hS 0 6 rfl rfl rfl rfl hl.1 rfl (Nat.le_of_ble_eq_true rfl) dL_law_543 hcs (fun H locs hP hD hS => ?_)
  have hP : va_P dD vwCl (([zX q g, zP cA (q 3) (zfm qq n), zA cI (q 4) 144 fO, zA cI (q 5) 12 to, zR (q 2) gR, zD (q 1) gD] ++ zPool cI q qq n S C) ++ zQ cI q2 g2 F) H := hP
  have hD : va_D (fun x : Nat => s.heap.size ≤ x) (([zX q g, zP cA (q 3) (zfm qq n), zA cI (q 4) 144 fO, zA cI (q 5) 12 to, zR (q 2) gR, zD (q 1) gD] ++ zPool cI q qq n S C) ++ zQ cI q2 g2 F) := hD
  refine lv_aload_n hx hb dL_law_546 rfl (lv_at hl 2 rfl) ?_
  refine lv_aload_n hx hb dL_law_547 rfl (lv_at hl 0 rfl) ?_
  refine lv_iload_n hx hb dL_law_548 rfl (lv_at hl 3 rfl) ?_
  refine lv_iconst (v := nI 1) hx hb dL_law_549 (by decide) ?_
  refine lv_iadd hx hb dL_law_550 ?_
  refine z_top (ixk (5 * k) 1) ?_
  refine va_sld hx hb hX hbl hbA hS (vp_in_nI (show 5 * k + 1 < L by omega) (by omega)) dL_law_551 ?_
  refine z_top (lxs (show 5 * k + 1 < 2 ^ 31 by omega)) ?_
  refine z_callVi ⟨hx, hb, hml, hown, hts⟩ hK (c_X7_about l dD cI cA q2 g2 F (xs (5 * k + 1)) r h2) (cwV 1 hts gL_law_X7_about rfl rfl rfl (by decide +kernel) ⟨Nat.le_of_ble_eq_true rfl, Nat.le_of_ble_eq_true rfl⟩) (zJ_r hP hD hS hA) hS 0 7 rfl rfl rfl rfl hl.1 rfl (Nat.le_of_ble_eq_true rfl) dL_law_552 hcs (fun H locs hP hD hS => ?_)
  refine lv_icmp_eq (tgt := 560) hx hb dL_law_555 (by decide) (fun _ => ?_) (fun h => absurd rfl h)
  refine W.widen (k := cells + 6) (n := slots + 58) (by omega) (by omega) ?_
  exact KK _ _ _ _ _ _ _ _ _ _ _ _ _ _ hZ hP hD hS hl
