/-! the law: its frame, its calls -/
/-! THE CLAIM OUT OF ONE WALK OF THE LAW'S BODY. Your part is whole_start (and what it stands on); all else here is the same for every law, but numbers. -/
def R_law : String := "MeshFieldLaw"
def lw_P (b : Addr) (xs : List Int32) (args : Array Value) (s : State) : Prop := args = #[.ref b] ∧ s.IntsAt b xs ∧ xs.length ≤ 2560 ∧ (Jvm.Cond.and given_1 narrow_1).before args s = true
def lw_Q (_ : Array Value) (s : State) (o : Outcome) (t : State) : Prop := o = .returned (some (.int 1)) ∧ Framed s o t [] 600000 7302250
def lw_Z (below : List Frame) (a : Array Value) (s : State) : State → Prop := fun t => ∃ o, t.status = .running ∧ Ended t below o ∧ lw_Q a s o t
/-- the law's own end, with 1 on the stack, nothing written that was there before, its room as the claim has it -/
theorem lw_ret {p : Program} {l : Launch} {e : Env} {s : State} {m : MethodId} {below : List Frame} {meth : Method} {c : Code} {b : Nat} (hx : p.tables.exec = Jvm.exec) (hb : c.code = code) (hr : meth.sig.returnType = ret) (hlocks : meth.locks = false) {pc : Nat} {H : Heap} {ls : Array Slot} (hdg : decode code pc = .ok (.ireturn, 1)) : W p l e room_1 s m #[Value.ref b] below meth c H [] 600000 7302250 (lw_Z below #[Value.ref b] s) (F0 m pc ls [.int 1]) := by
  intro T hT X
  obtain ⟨fs, hret, hrun, hended, hW, hframe⟩ := X.leave (v := some (.int 1)) (hlocks := hlocks) (fun h => by rw [hr] at h; cases h)
  have hmeth' : T.vm.method? m = some meth := X.method'
  refine ⟨T.setFrames fs, ?_, .returned (some (.int 1)), hrun, hended, rfl, ⟨_, rfl⟩, hW, hframe⟩
  jvm_step X.here [X.here.top, hx, hb, hdg, hmeth', hr, ret, narrow_b1]
  (try refine ⟨rfl, ?_⟩); (try refine ⟨rfl, ?_⟩)
  first | (intro acts; rw [hret _ acts rfl rfl rfl]) | rw [hret _ _ rfl rfl rfl]
  exact Steps.refl _
/-- what holds at the law's entry: the machine, the code, the tables' words (any of lw_tbl by 'hts w (by decide +kernel)'), the script of L ints xs at the cell b, what the Statement gives of the start (any of its parts by flat_of_before) -/
def lw_At (p : Program) (s : State) (m : MethodId) (meth : Method) (c : Code) (b L : Nat) (xs : Nat → Int32) : Prop :=
  p.tables.exec = Jvm.exec ∧ c.code = code ∧ meth.sig.returnType = ret ∧ c.maxLocals = 4 ∧ s.vm.findClass R_law = some m.cls ∧ (∀ w ∈ lw_tbl, w.before #[Value.ref b] s = true) ∧ va_X b L xs s s.heap ∧ b < s.heap.size ∧ meth.locks = false ∧ (Jvm.Cond.and given_1 narrow_1).before #[Value.ref b] s = true
def lKK (p : Program) (l : Launch) (e : Env) (s : State) (m : MethodId) (below : List Frame) (meth : Method) (c : Code) (b : Nat) (dD : va_G) (cI cA : ClassId) (q q2 : Nat → Nat) (k cells slots : Nat) (Q : State → Prop) : Prop := ∀ (n : Nat) (qq : Nat → Nat → Nat) (g fO to gR gD : zF) (S : Nat → Nat → zF) (C : Nat → Option Nat) (g2 : zF) (F : Nat → zF) (H : Heap) (locs : List Loc) (ls : Array Slot), ZR n g fO to gR gD S C g2 F → va_P dD vwCl (([zX q g, zP cA (q 3) (zfm qq n), zA cI (q 4) 144 fO, zA cI (q 5) 12 to, zR (q 2) gR, zD (q 1) gD] ++ zPool cI q qq n S C) ++ zQ cI q2 g2 F) H → va_D (fun x : Nat => s.heap.size ≤ x) (([zX q g, zP cA (q 3) (zfm qq n), zA cI (q 4) 144 fO, zA cI (q 5) 12 to, zR (q 2) gR, zD (q 1) gD] ++ zPool cI q qq n S C) ++ zQ cI q2 g2 F) → va_S (fun x : Nat => s.heap.size ≤ x) s.heap H locs → lv_has ls 4 [(0, .ref b), (1, .ref (q 0)), (2, .ref (q2 0)), (3, .int (nI (5 * k)))] → W p l e room_1 s m #[Value.ref b] below meth c H locs (cells + 6) (slots + 58) Q (F0 m 560 ls [])
theorem ixk (a c : Nat) : nI (a + c) = nI a + nI c := (nI_add a c).symm
theorem lxs {xs : Nat → Int32} {a : Nat} (h : a < 2 ^ 31) : xs a = xs (nI a).toNatClampNeg := by rw [nI_clamp h]
set_option maxHeartbeats 4000000 in
set_option maxRecDepth 100000 in
theorem lc_0 {p : Program} {l : Launch} {e : Env} {s : State} {m : MethodId} {below : List Frame} {meth : Method} {c : Code} {b L : Nat} {xs : Nat → Int32} (C0 : lw_At p s m meth c b L xs) {dD : va_G} {cI cA : ClassId} (hK : zK dD cI cA s) {q q2 : Nat → Nat} {k cells slots : Nat} {Q : State → Prop} (hL : L ≤ 2560) (hk : 5 * k + 5 ≤ L) (hc : cells + 6 ≤ 600000) (hs : slots + 58 ≤ 7302250) (KK : lKK p l e s m below meth c b dD cI cA q q2 k cells slots Q) {n : Nat} {qq : Nat → Nat → Nat} {g fO to gR gD : zF} {S : Nat → Nat → zF} {C : Nat → Option Nat} {g2 : zF} {F : Nat → zF} (hZ : ZR n g fO to gR gD S C g2 F) {H : Heap} {locs : List Loc} (hP : va_P dD vwCl (([zX q g, zP cA (q 3) (zfm qq n), zA cI (q 4) 144 fO, zA cI (q 5) 12 to, zR (q 2) gR, zD (q 1) gD] ++ zPool cI q qq n S C) ++ zQ cI q2 g2 F) H) (hD : va_D (fun x : Nat => s.heap.size ≤ x) (([zX q g, zP cA (q 3) (zfm qq n), zA cI (q 4) 144 fO, zA cI (q 5) 12 to, zR (q 2) gR, zD (q 1) gD] ++ zPool cI q qq n S C) ++ zQ cI q2 g2 F)) (hS : va_S (fun x : Nat => s.heap.size ≤ x) s.heap H locs) {ls : Array Slot} (hl : lv_has ls 4 [(0, .ref b), (1, .ref (q 0)), (2, .ref (q2 0)), (3, .int (nI (5 * k)))]) : W p l e room_1 s m #[Value.ref b] below meth c H locs cells slots Q (F0 m 104 ls []) := by
  obtain ⟨hx, hb, hr, hml, hown, hts0, hX, hbl, hlocks, hgv⟩ := C0
  have hts : ∀ w ∈ wsL_law, w.before #[Value.ref b] s = true := fun w hw => hts0 w (law_in w hw)
  have hown : s.vm.findClass RL = some m.cls := hown
  have hA : ∀ x : Nat, s.heap.size ≤ x → (fun x : Nat => s.heap.size ≤ x) x := fun _ h => h
  have hbA : ¬ (fun x : Nat => s.heap.size ≤ x) b := Nat.not_le.mpr hbl
  have hcs : cells ≤ room_1.cells ∧ slots ≤ room_1.slots := ⟨show cells ≤ 600000 by omega, show slots ≤ 7302250 by omega⟩
  have hn12 : n ≤ 12 := by obtain ⟨_, _, _, _, h, _⟩ := hZ; exact h.1
  obtain ⟨h1, h2, h3⟩ := seed_op hZ (xs (5 * k + 1))
  refine lv_aload_n hx hb dL_law_104 rfl (lv_at hl 1 rfl) ?_
  refine lv_aload_n hx hb dL_law_105 rfl (lv_at hl 0 rfl) ?_
  refine lv_iload_n hx hb dL_law_106 rfl (lv_at hl 3 rfl) ?_
  refine lv_iconst (v := nI 1) hx hb dL_law_107 (by decide) ?_
  refine lv_iadd hx hb dL_law_108 ?_
  refine z_top (ixk (5 * k) 1) ?_
  refine va_sld hx hb hX hbl hbA hS (vp_in_nI (show 5 * k + 1 < L by omega) (by omega)) dL_law_109 ?_
  refine z_top (lxs (show 5 * k + 1 < 2 ^ 31 by omega)) ?_
  have hP : va_P dD vwCl (zX q g :: ([zP cA (q 3) (zfm qq n), zA cI (q 4) 144 fO, zA cI (q 5) 12 to, zR (q 2) gR] ++ zD (q 1) gD :: (zPool cI q qq n S C ++ zQ cI q2 g2 F))) H := hP
  have hD : va_D (fun x : Nat => s.heap.size ≤ x) (zX q g :: ([zP cA (q 3) (zfm qq n), zA cI (q 4) 144 fO, zA cI (q 5) 12 to, zR (q 2) gR] ++ zD (q 1) gD :: (zPool cI q qq n S C ++ zQ cI q2 g2 F))) := hD
  refine z_callVv ⟨hx, hb, hml, hown, hts⟩ hK (c_X6_seed l dD cI cA q g gD (xs (5 * k + 1)) (va_up gD 0 (xs (5 * k + 1))) h1) (cwV 1 hts gL_law_X6_seed rfl rfl rfl (by decide +kernel) ⟨Nat.le_of_ble_eq_true rfl, Nat.le_of_ble_eq_true rfl⟩) (zJ_m hP hD hS hA) hS 0 6 rfl rfl rfl rfl hl.1 rfl (Nat.le_of_ble_eq_true rfl) dL_law_110 hcs (fun H locs hP hD hS => ?_)
  have hP : va_P dD vwCl (([zX q g, zP cA (q 3) (zfm qq n), zA cI (q 4) 144 fO, zA cI (q 5) 12 to, zR (q 2) gR, zD (q 1) (va_up gD 0 (xs (5 * k + 1)))] ++ zPool cI q qq n S C) ++ zQ cI q2 g2 F) H := hP
  have hD : va_D (fun x : Nat => s.heap.size ≤ x) (([zX q g, zP cA (q 3) (zfm qq n), zA cI (q 4) 144 fO, zA cI (q 5) 12 to, zR (q 2) gR, zD (q 1) (va_up gD 0 (xs (5 * k + 1)))] ++ zPool cI q qq n S C) ++ zQ cI q2 g2 F) := hD
  refine lv_aload_n hx hb dL_law_113 rfl (lv_at hl 2 rfl) ?_
  refine lv_aload_n hx hb dL_law_114 rfl (lv_at hl 0 rfl) ?_
  refine lv_iload_n hx hb dL_law_115 rfl (lv_at hl 3 rfl) ?_
  refine lv_iconst (v := nI 1) hx hb dL_law_116 (by decide) ?_
  refine lv_iadd hx hb dL_law_117 ?_
  refine z_top (ixk (5 * k) 1) ?_
  refine va_sld hx hb hX hbl hbA hS (vp_in_nI (show 5 * k + 1 < L by omega) (by omega)) dL_law_118 ?_
  refine z_top (lxs (show 5 * k + 1 < 2 ^ 31 by omega)) ?_
  refine z_callVv ⟨hx, hb, hml, hown, hts⟩ hK (c_X7_seed l dD cI cA q2 g2 F (xs (5 * k + 1)) (va_up g2 0 (xs (5 * k + 1))) h2) (cwV 1 hts gL_law_X7_seed rfl rfl rfl (by decide +kernel) ⟨Nat.le_of_ble_eq_true rfl, Nat.le_of_ble_eq_true rfl⟩) (zJ_r hP hD hS hA) hS 0 7 rfl rfl rfl rfl hl.1 rfl (Nat.le_of_ble_eq_true rfl) dL_law_119 hcs (fun H locs hP hD hS => ?_)
  refine lv_goto (tgt := 560) hx hb dL_law_122 (by decide) ?_
  refine W.widen (k := cells + 6) (n := slots + 58) (by omega) (by omega) ?_
  exact KK _ _ _ _ _ _ _ _ _ _ _ _ _ _ h3 hP hD hS hl
set_option maxHeartbeats 4000000 in
set_option maxRecDepth 100000 in
theorem lc_1 {p : Program} {l : Launch} {e : Env} {s : State} {m : MethodId} {below : List Frame} {meth : Method} {c : Code} {b L : Nat} {xs : Nat → Int32} (C0 : lw_At p s m meth c b L xs) {dD : va_G} {cI cA : ClassId} (hK : zK dD cI cA s) {q q2 : Nat → Nat} {k cells slots : Nat} {Q : State → Prop} (hL : L ≤ 2560) (hk : 5 * k + 5 ≤ L) (hc : cells + 6 ≤ 600000) (hs : slots + 58 ≤ 7302250) (KK : lKK p l e s m below meth c b dD cI cA q q2 k cells slots Q) {n : Nat} {qq : Nat → Nat → Nat} {g fO to gR gD : zF} {S : Nat → Nat → zF} {C : Nat → Option Nat} {g2 : zF} {F : Nat → zF} (hZ : ZR n g fO to gR gD S C g2 F) {H : Heap} {locs : List Loc} (hP : va_P dD vwCl (([zX q g, zP cA (q 3) (zfm qq n), zA cI (q 4) 144 fO, zA cI (q 5) 12 to, zR (q 2) gR, zD (q 1) gD] ++ zPool cI q qq n S C) ++ zQ cI q2 g2 F) H) (hD : va_D (fun x : Nat => s.heap.size ≤ x) (([zX q g, zP cA (q 3) (zfm qq n), zA cI (q 4) 144 fO, zA cI (q 5) 12 to, zR (q 2) gR, zD (q 1) gD] ++ zPool cI q qq n S C) ++ zQ cI q2 g2 F)) (hS : va_S (fun x : Nat => s.heap.size ≤ x) s.heap H locs) {ls : Array Slot} (hl : lv_has ls 4 [(0, .ref b), (1, .ref (q 0)), (2, .ref (q2 0)), (3, .int (nI (5 * k)))]) : W p l e room_1 s m #[Value.ref b] below meth c H locs cells slots Q (F0 m 125 ls []) := by
  obtain ⟨hx, hb, hr, hml, hown, hts0, hX, hbl, hlocks, hgv⟩ := C0
  have hts : ∀ w ∈ wsL_law, w.before #[Value.ref b] s = true := fun w hw => hts0 w (law_in w hw)
  have hown : s.vm.findClass RL = some m.cls := hown
  have hA : ∀ x : Nat, s.heap.size ≤ x → (fun x : Nat => s.heap.size ≤ x) x := fun _ h => h
  have hbA : ¬ (fun x : Nat => s.heap.size ≤ x) b := Nat.not_le.mpr hbl
  have hcs : cells ≤ room_1.cells ∧ slots ≤ room_1.slots := ⟨show cells ≤ 600000 by omega, show slots ≤ 7302250 by omega⟩
  have hn12 : n ≤ 12 := by obtain ⟨_, _, _, _, h, _⟩ := hZ; exact h.1
  obtain ⟨r, gR1, g21, h1, h2, -, h3⟩ := rules_op hZ (xs (5 * k + 1)) (xs (5 * k + 2)) (xs (5 * k + 3)) (xs (5 * k + 4))
  refine lv_aload_n hx hb dL_law_125 rfl (lv_at hl 1 rfl) ?_
  refine lv_aload_n hx hb dL_law_126 rfl (lv_at hl 0 rfl) ?_
  refine lv_iload_n hx hb dL_law_127 rfl (lv_at hl 3 rfl) ?_
  refine lv_iconst (v := nI 1) hx hb dL_law_128 (by decide) ?_
  refine lv_iadd hx hb dL_law_129 ?_
  refine z_top (ixk (5 * k) 1) ?_
  refine va_sld hx hb hX hbl hbA hS (vp_in_nI (show 5 * k + 1 < L by omega) (by omega)) dL_law_130 ?_
  refine z_top (lxs (show 5 * k + 1 < 2 ^ 31 by omega)) ?_
  refine lv_aload_n hx hb dL_law_131 rfl (lv_at hl 0 rfl) ?_
  refine lv_iload_n hx hb dL_law_132 rfl (lv_at hl 3 rfl) ?_
  refine lv_iconst (v := nI 2) hx hb dL_law_133 (by decide) ?_
  refine lv_iadd hx hb dL_law_134 ?_
  refine z_top (ixk (5 * k) 2) ?_
  refine va_sld hx hb hX hbl hbA hS (vp_in_nI (show 5 * k + 2 < L by omega) (by omega)) dL_law_135 ?_
  refine z_top (lxs (show 5 * k + 2 < 2 ^ 31 by omega)) ?_
  refine lv_aload_n hx hb dL_law_136 rfl (lv_at hl 0 rfl) ?_
  refine lv_iload_n hx hb dL_law_137 rfl (lv_at hl 3 rfl) ?_
  refine lv_iconst (v := nI 3) hx hb dL_law_138 (by decide) ?_
  refine lv_iadd hx hb dL_law_139 ?_
  refine z_top (ixk (5 * k) 3) ?_
  refine va_sld hx hb hX hbl hbA hS (vp_in_nI (show 5 * k + 3 < L by omega) (by omega)) dL_law_140 ?_
  refine z_top (lxs (show 5 * k + 3 < 2 ^ 31 by omega)) ?_
  refine lv_aload_n hx hb dL_law_141 rfl (lv_at hl 0 rfl) ?_
  refine lv_iload_n hx hb dL_law_142 rfl (lv_at hl 3 rfl) ?_
  refine lv_iconst (v := nI 4) hx hb dL_law_143 (by decide) ?_
  refine lv_iadd hx hb dL_law_144 ?_
  refine z_top (ixk (5 * k) 4) ?_
  refine va_sld hx hb hX hbl hbA hS (vp_in_nI (show 5 * k + 4 < L by omega) (by omega)) dL_law_145 ?_
  refine z_top (lxs (show 5 * k + 4 < 2 ^ 31 by omega)) ?_
  have hP : va_P dD vwCl (zX q g :: ([zP cA (q 3) (zfm qq n), zA cI (q 4) 144 fO, zA cI (q 5) 12 to] ++ zR (q 2) gR :: (zD (q 1) gD :: (zPool cI q qq n S C ++ zQ cI q2 g2 F)))) H := hP
  have hD : va_D (fun x : Nat => s.heap.size ≤ x) (zX q g :: ([zP cA (q 3) (zfm qq n), zA cI (q 4) 144 fO, zA cI (q 5) 12 to] ++ zR (q 2) gR :: (zD (q 1) gD :: (zPool cI q qq n S C ++ zQ cI q2 g2 F)))) := hD
  refine z_callVi ⟨hx, hb, hml, hown, hts⟩ hK (c_X6_rules l dD cI cA q g gR (xs (5 * k + 1)) (xs (5 * k + 2)) (xs (5 * k + 3)) (xs (5 * k + 4)) r gR1 h1) (cwV 4 hts gL_law_X6_rules rfl rfl rfl (by decide +kernel) ⟨Nat.le_of_ble_eq_true rfl, Nat.le_of_ble_eq_true rfl⟩) (zJ_m hP hD hS hA) hS 0 6 rfl rfl rfl rfl hl.1 rfl (Nat.le_of_ble_eq_true rfl) dL_law_146 hcs (fun H locs hP hD hS => ?_)
  have hP : va_P dD vwCl (([zX q g, zP cA (q 3) (zfm qq n), zA cI (q 4) 144 fO, zA cI (q 5) 12 to, zR (q 2) gR1, zD (q 1) gD] ++ zPool cI q qq n S C) ++ zQ cI q2 g2 F) H := hP
  have hD : va_D (fun x : Nat => s.heap.size ≤ x) (([zX q g, zP cA (q 3) (zfm qq n), zA cI (q 4) 144 fO, zA cI (q 5) 12 to, zR (q 2) gR1, zD (q 1) gD] ++ zPool cI q qq n S C) ++ zQ cI q2 g2 F) := hD
  refine lv_aload_n hx hb dL_law_149 rfl (lv_at hl 2 rfl) ?_
  refine lv_aload_n hx hb dL_law_150 rfl (lv_at hl 0 rfl) ?_
  refine lv_iload_n hx hb dL_law_151 rfl (lv_at hl 3 rfl) ?_
  refine lv_iconst (v := nI 1) hx hb dL_law_152 (by decide) ?_
  refine lv_iadd hx hb dL_law_153 ?_
  refine z_top (ixk (5 * k) 1) ?_
  refine va_sld hx hb hX hbl hbA hS (vp_in_nI (show 5 * k + 1 < L by omega) (by omega)) dL_law_154 ?_
  refine z_top (lxs (show 5 * k + 1 < 2 ^ 31 by omega)) ?_
  refine lv_aload_n hx hb dL_law_155 rfl (lv_at hl 0 rfl) ?_
  refine lv_iload_n hx hb dL_law_156 rfl (lv_at hl 3 rfl) ?_
  refine lv_iconst (v := nI 2) hx hb dL_law_157 (by decide) ?_
  refine lv_iadd hx hb dL_law_158 ?_
  refine z_top (ixk (5 * k) 2) ?_
  refine va_sld hx hb hX hbl hbA hS (vp_in_nI (show 5 * k + 2 < L by omega) (by omega)) dL_law_159 ?_
  refine z_top (lxs (show 5 * k + 2 < 2 ^ 31 by omega)) ?_
  refine lv_aload_n hx hb dL_law_160 rfl (lv_at hl 0 rfl) ?_
  refine lv_iload_n hx hb dL_law_161 rfl (lv_at hl 3 rfl) ?_
  refine lv_iconst (v := nI 3) hx hb dL_law_162 (by decide) ?_
  refine lv_iadd hx hb dL_law_163 ?_
  refine z_top (ixk (5 * k) 3) ?_
  refine va_sld hx hb hX hbl hbA hS (vp_in_nI (show 5 * k + 3 < L by omega) (by omega)) dL_law_164 ?_
  refine z_top (lxs (show 5 * k + 3 < 2 ^ 31 by omega)) ?_
  refine lv_aload_n hx hb dL_law_165 rfl (lv_at hl 0 rfl) ?_
  refine lv_iload_n hx hb dL_law_166 rfl (lv_at hl 3 rfl) ?_
  refine lv_iconst (v := nI 4) hx hb dL_law_167 (by decide) ?_
  refine lv_iadd hx hb dL_law_168 ?_
  refine z_top (ixk (5 * k) 4) ?_
  refine va_sld hx hb hX hbl hbA hS (vp_in_nI (show 5 * k + 4 < L by omega) (by omega)) dL_law_169 ?_
  refine z_top (lxs (show 5 * k + 4 < 2 ^ 31 by omega)) ?_
  refine z_callVi ⟨hx, hb, hml, hown, hts⟩ hK (c_X7_rules l dD cI cA q2 g2 F (xs (5 * k + 1)) (xs (5 * k + 2)) (xs (5 * k + 3)) (xs (5 * k + 4)) r g21 h2) (cwV 4 hts gL_law_X7_rules rfl rfl rfl (by decide +kernel) ⟨Nat.le_of_ble_eq_true rfl, Nat.le_of_ble_eq_true rfl⟩) (zJ_r hP hD hS hA) hS 0 7 rfl rfl rfl rfl hl.1 rfl (Nat.le_of_ble_eq_true rfl) dL_law_170 hcs (fun H locs hP hD hS => ?_)
  refine lv_icmp_eq (tgt := 560) hx hb dL_law_173 (by decide) (fun _ => ?_) (fun h => absurd rfl h)
  refine W.widen (k := cells + 6) (n := slots + 58) (by omega) (by omega) ?_
  exact KK _ _ _ _ _ _ _ _ _ _ _ _ _ _ h3 hP hD hS hl
set_option maxHeartbeats 4000000 in
set_option maxRecDepth 100000 in
theorem lc_2 {p : Program} {l : Launch} {e : Env} {s : State} {m : MethodId} {below : List Frame} {meth : Method} {c : Code} {b L : Nat} {xs : Nat → Int32} (C0 : lw_At p s m meth c b L xs) {dD : va_G} {cI cA : ClassId} (hK : zK dD cI cA s) {q q2 : Nat → Nat} {k cells slots : Nat} {Q : State → Prop} (hL : L ≤ 2560) (hk : 5 * k + 5 ≤ L) (hc : cells + 6 ≤ 600000) (hs : slots + 58 ≤ 7302250) (KK : lKK p l e s m below meth c b dD cI cA q q2 k cells slots Q) {n : Nat} {qq : Nat → Nat → Nat} {g fO to gR gD : zF} {S : Nat → Nat → zF} {C : Nat → Option Nat} {g2 : zF} {F : Nat → zF} (hZ : ZR n g fO to gR gD S C g2 F) {H : Heap} {locs : List Loc} (hP : va_P dD vwCl (([zX q g, zP cA (q 3) (zfm qq n), zA cI (q 4) 144 fO, zA cI (q 5) 12 to, zR (q 2) gR, zD (q 1) gD] ++ zPool cI q qq n S C) ++ zQ cI q2 g2 F) H) (hD : va_D (fun x : Nat => s.heap.size ≤ x) (([zX q g, zP cA (q 3) (zfm qq n), zA cI (q 4) 144 fO, zA cI (q 5) 12 to, zR (q 2) gR, zD (q 1) gD] ++ zPool cI q qq n S C) ++ zQ cI q2 g2 F)) (hS : va_S (fun x : Nat => s.heap.size ≤ x) s.heap H locs) {ls : Array Slot} (hl : lv_has ls 4 [(0, .ref b), (1, .ref (q 0)), (2, .ref (q2 0)), (3, .int (nI (5 * k)))]) : W p l e room_1 s m #[Value.ref b] below meth c H locs cells slots Q (F0 m 178 ls []) := by
  obtain ⟨hx, hb, hr, hml, hown, hts0, hX, hbl, hlocks, hgv⟩ := C0
  have hts : ∀ w ∈ wsL_law, w.before #[Value.ref b] s = true := fun w hw => hts0 w (law_in w hw)
  have hown : s.vm.findClass RL = some m.cls := hown
  have hA : ∀ x : Nat, s.heap.size ≤ x → (fun x : Nat => s.heap.size ≤ x) x := fun _ h => h
  have hbA : ¬ (fun x : Nat => s.heap.size ≤ x) b := Nat.not_le.mpr hbl
  have hcs : cells ≤ room_1.cells ∧ slots ≤ room_1.slots := ⟨show cells ≤ 600000 by omega, show slots ≤ 7302250 by omega⟩
  have hn12 : n ≤ 12 := by obtain ⟨_, _, _, _, h, _⟩ := hZ; exact h.1
  refine lv_aload_n hx hb dL_law_178 rfl (lv_at hl 1 rfl) ?_
  rcases Nat.lt_or_ge n 12 with hlt | hge
  · obtain ⟨gI1, gD1, g21, F1, h1, h2, h5, hC, h3⟩ := mach_new hlt hZ
    refine z_callVj (mc := 6) (ms := 58) ⟨hx, hb, hml, hown, hts⟩ hK (c_X6_machine_new l dD cI cA q qq n g fO to gR gD S C gI1 gD1 hlt h5 (fun j hj k hk => hC j k hj hk) h1) (cwV 0 hts gL_law_X6_machine rfl rfl rfl (by decide +kernel) ⟨Nat.le_of_ble_eq_true rfl, Nat.le_of_ble_eq_true rfl⟩) (fun _ => 0) (fun u => zJ_l hP hD hS hA) hS 0 6 rfl rfl rfl rfl hl.1 rfl (Nat.le_of_ble_eq_true rfl) dL_law_179 ⟨show cells + 6 ≤ 600000 from hc, show slots + 58 ≤ 7302250 from hs⟩ (fun u H locs hP hD hS => ?_)
    have hP : va_P dD vwCl (([zX q (va_up g 5 (g 5 + 1)), zP cA (q 3) (zfm (va_up qq n u) (n + 1)), zA cI (q 4) 144 fO, zA cI (q 5) 12 to, zR (q 2) gR, zD (q 1) gD1] ++ zPool cI q (va_up qq n u) (n + 1) (va_up S n (zs6 gM0 (fun _ => 0) (fun _ => 0) (fun _ => 0) gI1 (fun _ => 0))) (va_up C n none)) ++ zQ cI q2 g2 F) H := hP
    have hD : va_D (fun x : Nat => s.heap.size ≤ x) (([zX q (va_up g 5 (g 5 + 1)), zP cA (q 3) (zfm (va_up qq n u) (n + 1)), zA cI (q 4) 144 fO, zA cI (q 5) 12 to, zR (q 2) gR, zD (q 1) gD1] ++ zPool cI q (va_up qq n u) (n + 1) (va_up S n (zs6 gM0 (fun _ => 0) (fun _ => 0) (fun _ => 0) gI1 (fun _ => 0))) (va_up C n none)) ++ zQ cI q2 g2 F) := hD
    refine lv_aload_n hx hb dL_law_182 rfl (lv_at hl 2 rfl) ?_
    refine z_callVi ⟨hx, hb, hml, hown, hts⟩ hK (c_X7_machine l dD cI cA q2 g2 F (g 5) g21 F1 h2) (cwV 0 hts gL_law_X7_machine rfl rfl rfl (by decide +kernel) ⟨Nat.le_of_ble_eq_true rfl, Nat.le_of_ble_eq_true rfl⟩) (zJ_r hP hD hS hA) hS 0 7 rfl rfl rfl rfl hl.1 rfl (Nat.le_of_ble_eq_true rfl) dL_law_183 ⟨show cells + 6 ≤ 600000 from hc, show slots + 58 ≤ 7302250 from hs⟩ (fun H locs hP hD hS => ?_)
    refine lv_icmp_eq (tgt := 560) hx hb dL_law_186 (by decide) (fun _ => ?_) (fun h => absurd rfl h)
    exact KK _ _ _ _ _ _ _ _ _ _ _ _ _ _ h3 hP hD hS hl
  · have e12 : n = 12 := by omega
    subst e12
    obtain ⟨h1, h2⟩ := mach_full hZ
    refine z_callVi ⟨hx, hb, hml, hown, hts⟩ hK (c_X6_machine l dD cI cA q qq 12 hn12 g fO to gR gD S C (-1) h1) (cwV 0 hts gL_law_X6_machine rfl rfl rfl (by decide +kernel) ⟨Nat.le_of_ble_eq_true rfl, Nat.le_of_ble_eq_true rfl⟩) (zJ_l hP hD hS hA) hS 0 6 rfl rfl rfl rfl hl.1 rfl (Nat.le_of_ble_eq_true rfl) dL_law_179 hcs (fun H locs hP hD hS => ?_)
    refine lv_aload_n hx hb dL_law_182 rfl (lv_at hl 2 rfl) ?_
    refine z_callVi ⟨hx, hb, hml, hown, hts⟩ hK (c_X7_machine l dD cI cA q2 g2 F (-1) g2 F h2) (cwV 0 hts gL_law_X7_machine rfl rfl rfl (by decide +kernel) ⟨Nat.le_of_ble_eq_true rfl, Nat.le_of_ble_eq_true rfl⟩) (zJ_r hP hD hS hA) hS 0 7 rfl rfl rfl rfl hl.1 rfl (Nat.le_of_ble_eq_true rfl) dL_law_183 hcs (fun H locs hP hD hS => ?_)
    refine lv_icmp_eq (tgt := 560) hx hb dL_law_186 (by decide) (fun _ => ?_) (fun h => absurd rfl h)
    refine W.widen (k := cells + 6) (n := slots + 58) (by omega) (by omega) ?_
    exact KK _ _ _ _ _ _ _ _ _ _ _ _ _ _ hZ hP hD hS hl
