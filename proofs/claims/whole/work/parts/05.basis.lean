def s_X0_empty (gB : zF) (mk : zF) (mx : zF) : Option ((zF) × (zF) × (zF)) := zb1 (s_J7_fill_53178 mk 12 (0)) fun (mk1 : zF) => zb1 (s_J7_fill_53178 mx 12 (0)) fun (mx3 : zF) => zl (va_up gB 2 (0)) fun (gB5 : zF) => some (gB5, mk1, mx3)
abbrev rm_X0_empty : Room := { frames := 1, cells := 0, slots := 0, locals := 23 }
set_option maxHeartbeats 4000000 in
set_option maxRecDepth 100000 in
theorem c_X0_empty (l : Launch) (dD : va_G) (cI cA : ClassId) (q : Nat → Nat) (gB : zF) (mk : zF) (mx : zF) (r_gB : zF) (r_mk : zF) (r_mx : zF) (hsp : s_X0_empty gB mk mx = some (r_gB, r_mk, r_mx)) : zMv l yX0_empty wsX0_empty rm_X0_empty dD cI cA [.ref (q 1)] ([zB q gB, zA cI (q 2) 12 mk, zA cI (q 3) 12 mx]) ([zB q r_gB, zA cI (q 2) 12 r_mk, zA cI (q 3) 12 r_mx]) := by
  refine zMv_of (cc := cX0_empty) (maxL := 1) (by decide) rfl (Nat.le_of_ble_eq_true rfl) ?_
  intro p e s m args below meth c A Q ls hx hb hml hown hts hK hA hP hD hl hret
  have hown : s.vm.findClass RX0 = some m.cls := hown
  have iX0 : ∀ w ∈ wsX00, w ∈ wsX0_empty := by decide +kernel
  have f9 := hts (.fieldLink RX0 9 "MeshField$Basis" "masks" "[I") (by decide +kernel)
  have f15 := hts (.fieldLink RX0 15 "MeshField$Basis" "mixed" "[I") (by decide +kernel)
  have f24 := hts (.fieldLink RX0 24 "MeshField$Basis" "rank" "I") (by decide +kernel)
  have hS : va_S A s.heap s.heap [] := va_S.rf
  have hl : lv_has ls 1 [(0, .ref (q 1))] := hl
  unfold s_X0_empty at hsp
  refine lv_aload_n hx hb dX0_empty_0 rfl (lv_at hl 0 rfl) ?_
  refine va_get (D := dD) (ci := 0) (v := .ref (q 2)) (C := RX0) (T := TX0) (N := 3) hx hb hts iX0 hown hK.1 hP 0 rfl rfl 0 (by decide) f9 (fun _ h9 => h9) rfl dX0_empty_1 ?_
  refine lv_iconst (v := 0) hx hb dX0_empty_4 (by decide) ?_
  obtain ⟨mk1, hc2, hsp⟩ := z_b1 hsp
  refine z_callSv ⟨hx, hb, hml, hown, hts⟩ hK (c_J7_fill_53178 l dD cI cA (q 2) 12 mk (0) mk1 hc2) (va_cwS 2 hts gX0_empty_J7_fill_53178 rfl rfl rfl (by decide +kernel) ⟨Nat.le_of_ble_eq_true rfl, Nat.le_of_ble_eq_true rfl⟩) (zJ.of (wc := [zA cI (q 2) 12 mk]) (wc1 := [zA cI (q 2) 12 mk1]) (wr := [zB q gB, zA cI (q 3) 12 mx]) (w2 := [zB q gB, zA cI (q 2) 12 mk1, zA cI (q 3) 12 mx]) hP hD hS hA [1] [0, 2] [0, 2, 1] rfl rfl rfl rfl rfl rfl rfl) hS rfl hl.1 rfl (Nat.le_of_ble_eq_true rfl) dX0_empty_5 ⟨Nat.zero_le _, Nat.zero_le _⟩ (fun H locs hP hD hS => ?_)
  refine lv_aload_n hx hb dX0_empty_8 rfl (lv_at hl 0 rfl) ?_
  refine va_get (D := dD) (ci := 0) (v := .ref (q 3)) (C := RX0) (T := TX0) (N := 3) hx hb hts iX0 hown hK.1 hP 0 rfl rfl 1 (by decide) f15 (fun _ h9 => h9) rfl dX0_empty_9 ?_
  refine lv_iconst (v := 0) hx hb dX0_empty_12 (by decide) ?_
  obtain ⟨mx3, hc4, hsp⟩ := z_b1 hsp
  refine z_callSv ⟨hx, hb, hml, hown, hts⟩ hK (c_J7_fill_53178 l dD cI cA (q 3) 12 mx (0) mx3 hc4) (va_cwS 2 hts gX0_empty_J7_fill_53178 rfl rfl rfl (by decide +kernel) ⟨Nat.le_of_ble_eq_true rfl, Nat.le_of_ble_eq_true rfl⟩) (zJ.of (wc := [zA cI (q 3) 12 mx]) (wc1 := [zA cI (q 3) 12 mx3]) (wr := [zB q gB, zA cI (q 2) 12 mk1]) (w2 := [zB q gB, zA cI (q 2) 12 mk1, zA cI (q 3) 12 mx3]) hP hD hS hA [2] [0, 1] [0, 1, 2] rfl rfl rfl rfl rfl rfl rfl) hS rfl hl.1 rfl (Nat.le_of_ble_eq_true rfl) dX0_empty_13 ⟨Nat.zero_le _, Nat.zero_le _⟩ (fun H locs hP hD hS => ?_)
  refine lv_aload_n hx hb dX0_empty_16 rfl (lv_at hl 0 rfl) ?_
  refine lv_iconst (v := 0) hx hb dX0_empty_17 (by decide) ?_
  refine va_put (D := dD) (ci := 0) (v := .int 0) (ty := .int) (C := RX0) (T := TX0) (N := 3) hx hb hts iX0 tyX0 tyX0_ok nmX0 hown hK.1 hP hD hS 0 rfl rfl 2 (by decide) f24 (fun _ h9 => h9) rfl (by decide +kernel) rfl rfl (Nat.le_of_ble_eq_true rfl) dX0_empty_18 (fun H locs hP hD hS => ?_)
  obtain ⟨gB5, egB5, hsp⟩ := z_lt hsp
  have hP : va_P dD vwCl ([zB q gB5, zA cI (q 2) 12 mk1, zA cI (q 3) 12 mx3]) H := by rw [egB5]; exact hP
  have hD : va_D A ([zB q gB5, zA cI (q 2) 12 mk1, zA cI (q 3) 12 mx3]) := by rw [egB5]; exact hD
  obtain ⟨rfl, rfl, rfl⟩ := z_i3 hsp
  exact hret _ _ ls 21 dX0_empty_21 hP hD hS
def s_X0_takeIn_b79  : Nat → (zF) → (zF) → (zF) → (Int32) → (Int32) → (Int32) → (Int32) → Option (Int32 × (zF) × (zF) × (zF))
  | 0, _, _, _, _, _, _, _ => none
  | n79 + 1, gB_, mk_, mx_, lo3, lo4, lo5, lo6 => (if 12 ≤ lo6 then if lo5 < 0 ∨ 12 ≤ (lo5).toNatClampNeg then none else zl (upd mk_ (lo5).toNatClampNeg (lo3)) fun (mk7 : zF) => if lo5 < 0 ∨ 12 ≤ (lo5).toNatClampNeg then none else zl (upd mx_ (lo5).toNatClampNeg (lo4)) fun (mx9 : zF) => zl (va_up gB_ 2 (((gB_ 2) + 1))) fun (gB10 : zF) => some (1, gB10, mk7, mx9) else if lo6 < 0 ∨ 12 ≤ (lo6).toNatClampNeg then none else zb1 (s_X0_has ((mk_ (lo6).toNatClampNeg)) (lo5)) fun (v12 : Int32) => (if v12 = 0 then zl (lo6 + 1) fun (x15 : Int32) => (s_X0_takeIn_b79  n79 gB_ mk_ mx_ (lo3) (lo4) (lo5) (x15)) else if lo6 < 0 ∨ 12 ≤ (lo6).toNatClampNeg then none else if lo6 < 0 ∨ 12 ≤ (lo6).toNatClampNeg then none else zl (upd mk_ (lo6).toNatClampNeg (((mk_ (lo6).toNatClampNeg) ^^^ lo3))) fun (mk18 : zF) => if lo6 < 0 ∨ 12 ≤ (lo6).toNatClampNeg then none else if lo6 < 0 ∨ 12 ≤ (lo6).toNatClampNeg then none else zl (upd mx_ (lo6).toNatClampNeg (((mx_ (lo6).toNatClampNeg) ^^^ lo4))) fun (mx21 : zF) => zl (lo6 + 1) fun (x22 : Int32) => (s_X0_takeIn_b79  n79 gB_ mk18 mx21 (lo3) (lo4) (lo5) (x22))))
def s_X0_takeIn_b8  : Nat → (zF) → (zF) → (zF) → (Int32) → (Int32) → (Int32) → Option (Int32 × (zF) × (zF) × (zF))
  | 0, _, _, _, _, _, _ => none
  | n8 + 1, gB_, mk_, mx_, lo3, lo4, lo5 => (if 12 ≤ lo5 then zb1 (s_X0_headOf (lo3)) fun (v2 : Int32) => (if v2 = (-1) then some (0, gB_, mk_, mx_) else (s_X0_takeIn_b79  13 gB_ mk_ mx_ (lo3) (lo4) (v2) (0))) else if lo5 < 0 ∨ 12 ≤ (lo5).toNatClampNeg then none else (if (mk_ (lo5).toNatClampNeg) = 0 then zl (lo5 + 1) fun (x25 : Int32) => (s_X0_takeIn_b8  n8 gB_ mk_ mx_ (lo3) (lo4) (x25)) else zb1 (s_X0_has (lo3) (lo5)) fun (v26 : Int32) => (if v26 = 0 then zl (lo5 + 1) fun (x29 : Int32) => (s_X0_takeIn_b8  n8 gB_ mk_ mx_ (lo3) (lo4) (x29)) else if lo5 < 0 ∨ 12 ≤ (lo5).toNatClampNeg then none else zl ((lo3 ^^^ (mk_ (lo5).toNatClampNeg))) fun (x31 : Int32) => if lo5 < 0 ∨ 12 ≤ (lo5).toNatClampNeg then none else zl ((lo4 ^^^ (mx_ (lo5).toNatClampNeg))) fun (x33 : Int32) => zl (lo5 + 1) fun (x34 : Int32) => (s_X0_takeIn_b8  n8 gB_ mk_ mx_ (x31) (x33) (x34)))))
def s_X0_takeIn (gB : zF) (mk : zF) (mx : zF) (p1 : Int32) (p2 : Int32) : Option (Int32 × (zF) × (zF) × (zF)) := (s_X0_takeIn_b8  13 gB mk mx (p1) (p2) (0))
abbrev rm_X0_takeIn : Room := { frames := 2, cells := 0, slots := 0, locals := 42 }
set_option maxHeartbeats 4000000 in
set_option maxRecDepth 100000 in
theorem c_X0_takeIn (l : Launch) (dD : va_G) (cI cA : ClassId) (q : Nat → Nat) (gB : zF) (mk : zF) (mx : zF) (p1 : Int32) (p2 : Int32) (rv : Int32) (r_gB : zF) (r_mk : zF) (r_mx : zF) (hsp : s_X0_takeIn gB mk mx p1 p2 = some (rv, r_gB, r_mk, r_mx)) : zMi l yX0_takeIn wsX0_takeIn rm_X0_takeIn dD cI cA [.ref (q 1), .int p1, .int p2] ([zB q gB, zA cI (q 2) 12 mk, zA cI (q 3) 12 mx]) ([zB q r_gB, zA cI (q 2) 12 r_mk, zA cI (q 3) 12 r_mx]) rv := by
  refine zMi_of (cc := cX0_takeIn) (maxL := 7) (by decide) rfl (Nat.le_of_ble_eq_true rfl) ?_
  intro p e s m args below meth c A Q ls hx hb hml hown hts hK hA hP hD hl hret
  have hown : s.vm.findClass RX0 = some m.cls := hown
  have iX0 : ∀ w ∈ wsX00, w ∈ wsX0_takeIn := by decide +kernel
  have f9 := hts (.fieldLink RX0 9 "MeshField$Basis" "masks" "[I") (by decide +kernel)
  have f15 := hts (.fieldLink RX0 15 "MeshField$Basis" "mixed" "[I") (by decide +kernel)
  have f24 := hts (.fieldLink RX0 24 "MeshField$Basis" "rank" "I") (by decide +kernel)
  have hS : va_S A s.heap s.heap [] := va_S.rf
  have hl : lv_has ls 7 [(0, .ref (q 1)), (1, .int p1), (2, .int p2)] := hl
  have K_79 : ∀ (nf : Nat) (H : Heap) (locs : List Loc) (ls : Array Slot) (gB_ : zF) (mk_ : zF) (mx_ : zF) (lo3 : Int32) (lo4 : Int32) (lo5 : Int32) (lo6 : Int32), va_P dD vwCl ([zB q gB_, zA cI (q 2) 12 mk_, zA cI (q 3) 12 mx_]) H → va_D A ([zB q gB_, zA cI (q 2) 12 mk_, zA cI (q 3) 12 mx_]) → va_S A s.heap H locs → lv_has ls 7 [(0, .ref (q 1)), (3, .int lo3), (4, .int lo4), (5, .int lo5), (6, .int lo6)] → s_X0_takeIn_b79  nf gB_ mk_ mx_ lo3 lo4 lo5 lo6 = some (rv, r_gB, r_mk, r_mx) → W p l e rm_X0_takeIn s m args below meth c H locs 0 0 Q (F0 m 79 ls []) := by
    intro nf
    induction nf with
    | zero =>
      intro H locs ls gB_ mk_ mx_ lo3 lo4 lo5 lo6 hP hD hS hl hsp
      exact absurd (show (none : Option (Int32 × (zF) × (zF) × (zF))) = some (rv, r_gB, r_mk, r_mx) from hsp) (fun h => by cases h)
    | succ n79 ih79 =>
      intro H locs ls gB_ mk_ mx_ lo3 lo4 lo5 lo6 hP hD hS hl hsp
      rw [s_X0_takeIn_b79] at hsp
      refine lv_iload hx hb dX0_takeIn_79 (lv_at hl 4 rfl) ?_
      refine lv_bipush (v := 12) hx hb dX0_takeIn_81 (by decide) ?_
      refine lv_icmp_ge (tgt := 130) hx hb dX0_takeIn_83 (by decide) (fun c5 => ?_) (fun c5 => ?_)
      · have hsp := z_t c5 hsp
        refine lv_aload_n hx hb dX0_takeIn_130 rfl (lv_at hl 0 rfl) ?_
        refine va_get (D := dD) (ci := 0) (v := .ref (q 2)) (C := RX0) (T := TX0) (N := 3) hx hb hts iX0 hown hK.1 hP 0 rfl rfl 0 (by decide) f9 (fun _ h9 => h9) rfl dX0_takeIn_131 ?_
        refine lv_iload hx hb dX0_takeIn_134 (lv_at hl 3 rfl) ?_
        refine lv_iload_n hx hb dX0_takeIn_136 rfl (lv_at hl 1 rfl) ?_
        obtain ⟨h6, hsp⟩ := z_in hsp
        refine va_iast hx hb hK.1 hP hD hS 1 0 rfl rfl h6 dX0_takeIn_137 (fun H locs hP hD hS => ?_)
        obtain ⟨mk7, emk7, hsp⟩ := z_lt hsp
        have hP : va_P dD vwCl ([zB q gB_, zA cI (q 2) 12 mk7, zA cI (q 3) 12 mx_]) H := by rw [emk7]; exact hP
        have hD : va_D A ([zB q gB_, zA cI (q 2) 12 mk7, zA cI (q 3) 12 mx_]) := by rw [emk7]; exact hD
        refine lv_aload_n hx hb dX0_takeIn_138 rfl (lv_at hl 0 rfl) ?_
        refine va_get (D := dD) (ci := 0) (v := .ref (q 3)) (C := RX0) (T := TX0) (N := 3) hx hb hts iX0 hown hK.1 hP 0 rfl rfl 1 (by decide) f15 (fun _ h9 => h9) rfl dX0_takeIn_139 ?_
        refine lv_iload hx hb dX0_takeIn_142 (lv_at hl 3 rfl) ?_
        refine lv_iload hx hb dX0_takeIn_144 (lv_at hl 2 rfl) ?_
        obtain ⟨h8, hsp⟩ := z_in hsp
        refine va_iast hx hb hK.1 hP hD hS 2 0 rfl rfl h8 dX0_takeIn_146 (fun H locs hP hD hS => ?_)
        obtain ⟨mx9, emx9, hsp⟩ := z_lt hsp
        have hP : va_P dD vwCl ([zB q gB_, zA cI (q 2) 12 mk7, zA cI (q 3) 12 mx9]) H := by rw [emx9]; exact hP
        have hD : va_D A ([zB q gB_, zA cI (q 2) 12 mk7, zA cI (q 3) 12 mx9]) := by rw [emx9]; exact hD
        refine lv_aload_n hx hb dX0_takeIn_147 rfl (lv_at hl 0 rfl) ?_
        refine lv_dup hx hb dX0_takeIn_148 rfl ?_
        refine va_get (D := dD) (ci := 0) (v := .int (gB_ 2)) (C := RX0) (T := TX0) (N := 3) hx hb hts iX0 hown hK.1 hP 0 rfl rfl 2 (by decide) f24 (fun _ h9 => h9) rfl dX0_takeIn_149 ?_
        refine lv_iconst (v := 1) hx hb dX0_takeIn_152 (by decide) ?_
        refine lv_iadd hx hb dX0_takeIn_153 ?_
        refine va_put (D := dD) (ci := 0) (v := .int ((gB_ 2) + 1)) (ty := .int) (C := RX0) (T := TX0) (N := 3) hx hb hts iX0 tyX0 tyX0_ok nmX0 hown hK.1 hP hD hS 0 rfl rfl 2 (by decide) f24 (fun _ h9 => h9) rfl (by decide +kernel) rfl rfl (Nat.le_of_ble_eq_true rfl) dX0_takeIn_154 (fun H locs hP hD hS => ?_)
        obtain ⟨gB10, egB10, hsp⟩ := z_lt hsp
        have hP : va_P dD vwCl ([zB q gB10, zA cI (q 2) 12 mk7, zA cI (q 3) 12 mx9]) H := by rw [egB10]; exact hP
        have hD : va_D A ([zB q gB10, zA cI (q 2) 12 mk7, zA cI (q 3) 12 mx9]) := by rw [egB10]; exact hD
        refine lv_iconst (v := 1) hx hb dX0_takeIn_157 (by decide) ?_
        obtain ⟨rfl, rfl, rfl, rfl⟩ := z_i4 hsp
        exact hret _ _ ls 158 dX0_takeIn_158 rfl hP hD hS
      · have hsp := z_f c5 hsp
        refine lv_aload_n hx hb dX0_takeIn_86 rfl (lv_at hl 0 rfl) ?_
        refine va_get (D := dD) (ci := 0) (v := .ref (q 2)) (C := RX0) (T := TX0) (N := 3) hx hb hts iX0 hown hK.1 hP 0 rfl rfl 0 (by decide) f9 (fun _ h9 => h9) rfl dX0_takeIn_87 ?_
        refine lv_iload hx hb dX0_takeIn_90 (lv_at hl 4 rfl) ?_
        obtain ⟨h11, hsp⟩ := z_in hsp
        refine va_iald hx hb hK.1 hP 1 0 rfl rfl h11 dX0_takeIn_92 ?_
        refine lv_iload hx hb dX0_takeIn_93 (lv_at hl 3 rfl) ?_
        obtain ⟨v12, hc13, hsp⟩ := z_b1 hsp
        refine z_callSi ⟨hx, hb, hml, hown, hts⟩ hK (c_X0_has l dD cI cA ((mk_ (lo6).toNatClampNeg)) (lo5) v12 hc13) (va_cwS 2 hts gX0_takeIn_X0_has rfl rfl rfl (by decide +kernel) ⟨Nat.le_of_ble_eq_true rfl, Nat.le_of_ble_eq_true rfl⟩) (zJ.of (wc := []) (wc1 := []) (wr := [zB q gB_, zA cI (q 2) 12 mk_, zA cI (q 3) 12 mx_]) (w2 := [zB q gB_, zA cI (q 2) 12 mk_, zA cI (q 3) 12 mx_]) hP hD hS hA [] [0, 1, 2] [0, 1, 2] rfl rfl rfl rfl rfl rfl rfl) hS rfl hl.1 rfl (Nat.le_of_ble_eq_true rfl) dX0_takeIn_95 ⟨Nat.zero_le _, Nat.zero_le _⟩ (fun H locs hP hD hS => ?_)
        refine lv_if_eq (tgt := 124) hx hb dX0_takeIn_98 (by decide) (fun c14 => ?_) (fun c14 => ?_)
        · have hsp := z_t c14 hsp
          obtain ⟨x15, ex15, hsp⟩ := z_lt hsp
          refine lv_iinc (v := x15) (lv' := [(6, .int x15), (0, .ref (q 1)), (3, .int lo3), (4, .int lo4), (5, .int lo5)]) hx hb dX0_takeIn_124 hl (k := 4) rfl (by rw [ex15]; rfl) (by decide) rfl (fun ls hl => ?_)
          refine lv_goto (tgt := 79) hx hb dX0_takeIn_127 (by decide) ?_
          exact ih79 _ _ ls gB_ mk_ mx_ (lo3) (lo4) (lo5) (x15) hP hD hS (lv_sub hl [1, 2, 3, 4, 0] rfl) hsp
        · have hsp := z_f c14 hsp
          refine lv_aload_n hx hb dX0_takeIn_101 rfl (lv_at hl 0 rfl) ?_
          refine va_get (D := dD) (ci := 0) (v := .ref (q 2)) (C := RX0) (T := TX0) (N := 3) hx hb hts iX0 hown hK.1 hP 0 rfl rfl 0 (by decide) f9 (fun _ h9 => h9) rfl dX0_takeIn_102 ?_
          refine lv_iload hx hb dX0_takeIn_105 (lv_at hl 4 rfl) ?_
          refine lv_dup2_11 hx hb dX0_takeIn_107 rfl rfl ?_
          obtain ⟨h16, hsp⟩ := z_in hsp
          refine va_iald hx hb hK.1 hP 1 0 rfl rfl h16 dX0_takeIn_108 ?_
          refine lv_iload_n hx hb dX0_takeIn_109 rfl (lv_at hl 1 rfl) ?_
          refine lv_ixor hx hb dX0_takeIn_110 ?_
          obtain ⟨h17, hsp⟩ := z_in hsp
          refine va_iast hx hb hK.1 hP hD hS 1 0 rfl rfl h17 dX0_takeIn_111 (fun H locs hP hD hS => ?_)
          obtain ⟨mk18, emk18, hsp⟩ := z_lt hsp
          have hP : va_P dD vwCl ([zB q gB_, zA cI (q 2) 12 mk18, zA cI (q 3) 12 mx_]) H := by rw [emk18]; exact hP
          have hD : va_D A ([zB q gB_, zA cI (q 2) 12 mk18, zA cI (q 3) 12 mx_]) := by rw [emk18]; exact hD
          refine lv_aload_n hx hb dX0_takeIn_112 rfl (lv_at hl 0 rfl) ?_
          refine va_get (D := dD) (ci := 0) (v := .ref (q 3)) (C := RX0) (T := TX0) (N := 3) hx hb hts iX0 hown hK.1 hP 0 rfl rfl 1 (by decide) f15 (fun _ h9 => h9) rfl dX0_takeIn_113 ?_
          refine lv_iload hx hb dX0_takeIn_116 (lv_at hl 4 rfl) ?_
          refine lv_dup2_11 hx hb dX0_takeIn_118 rfl rfl ?_
          obtain ⟨h19, hsp⟩ := z_in hsp
          refine va_iald hx hb hK.1 hP 2 0 rfl rfl h19 dX0_takeIn_119 ?_
          refine lv_iload hx hb dX0_takeIn_120 (lv_at hl 2 rfl) ?_
          refine lv_ixor hx hb dX0_takeIn_122 ?_
          obtain ⟨h20, hsp⟩ := z_in hsp
          refine va_iast hx hb hK.1 hP hD hS 2 0 rfl rfl h20 dX0_takeIn_123 (fun H locs hP hD hS => ?_)
          obtain ⟨mx21, emx21, hsp⟩ := z_lt hsp
          have hP : va_P dD vwCl ([zB q gB_, zA cI (q 2) 12 mk18, zA cI (q 3) 12 mx21]) H := by rw [emx21]; exact hP
          have hD : va_D A ([zB q gB_, zA cI (q 2) 12 mk18, zA cI (q 3) 12 mx21]) := by rw [emx21]; exact hD
          obtain ⟨x22, ex22, hsp⟩ := z_lt hsp
          refine lv_iinc (v := x22) (lv' := [(6, .int x22), (0, .ref (q 1)), (3, .int lo3), (4, .int lo4), (5, .int lo5)]) hx hb dX0_takeIn_124 hl (k := 4) rfl (by rw [ex22]; rfl) (by decide) rfl (fun ls hl => ?_)
          refine lv_goto (tgt := 79) hx hb dX0_takeIn_127 (by decide) ?_
          exact ih79 _ _ ls gB_ mk18 mx21 (lo3) (lo4) (lo5) (x22) hP hD hS (lv_sub hl [1, 2, 3, 4, 0] rfl) hsp
  have K_8 : ∀ (nf : Nat) (H : Heap) (locs : List Loc) (ls : Array Slot) (gB_ : zF) (mk_ : zF) (mx_ : zF) (lo3 : Int32) (lo4 : Int32) (lo5 : Int32), va_P dD vwCl ([zB q gB_, zA cI (q 2) 12 mk_, zA cI (q 3) 12 mx_]) H → va_D A ([zB q gB_, zA cI (q 2) 12 mk_, zA cI (q 3) 12 mx_]) → va_S A s.heap H locs → lv_has ls 7 [(0, .ref (q 1)), (3, .int lo3), (4, .int lo4), (5, .int lo5)] → s_X0_takeIn_b8  nf gB_ mk_ mx_ lo3 lo4 lo5 = some (rv, r_gB, r_mk, r_mx) → W p l e rm_X0_takeIn s m args below meth c H locs 0 0 Q (F0 m 8 ls []) := by
    intro nf
    induction nf with
    | zero =>
      intro H locs ls gB_ mk_ mx_ lo3 lo4 lo5 hP hD hS hl hsp
      exact absurd (show (none : Option (Int32 × (zF) × (zF) × (zF))) = some (rv, r_gB, r_mk, r_mx) from hsp) (fun h => by cases h)
    | succ n8 ih8 =>
      intro H locs ls gB_ mk_ mx_ lo3 lo4 lo5 hP hD hS hl hsp
      rw [s_X0_takeIn_b8] at hsp
      refine lv_iload hx hb dX0_takeIn_8 (lv_at hl 3 rfl) ?_
      refine lv_bipush (v := 12) hx hb dX0_takeIn_10 (by decide) ?_
      refine lv_icmp_ge (tgt := 62) hx hb dX0_takeIn_12 (by decide) (fun c1 => ?_) (fun c1 => ?_)
      · have hsp := z_t c1 hsp
        refine lv_iload_n hx hb dX0_takeIn_62 rfl (lv_at hl 1 rfl) ?_
        obtain ⟨v2, hc3, hsp⟩ := z_b1 hsp
        refine z_callSi ⟨hx, hb, hml, hown, hts⟩ hK (c_X0_headOf l dD cI cA (lo3) v2 hc3) (va_cwS 1 hts gX0_takeIn_X0_headOf rfl rfl rfl (by decide +kernel) ⟨Nat.le_of_ble_eq_true rfl, Nat.le_of_ble_eq_true rfl⟩) (zJ.of (wc := []) (wc1 := []) (wr := [zB q gB_, zA cI (q 2) 12 mk_, zA cI (q 3) 12 mx_]) (w2 := [zB q gB_, zA cI (q 2) 12 mk_, zA cI (q 3) 12 mx_]) hP hD hS hA [] [0, 1, 2] [0, 1, 2] rfl rfl rfl rfl rfl rfl rfl) hS rfl hl.1 rfl (Nat.le_of_ble_eq_true rfl) dX0_takeIn_63 ⟨Nat.zero_le _, Nat.zero_le _⟩ (fun H locs hP hD hS => ?_)
        refine lv_istore (lv' := [(5, .int v2), (0, .ref (q 1)), (3, .int lo3), (4, .int lo4)]) hx hb dX0_takeIn_66 hl (by decide) rfl (fun ls hl => ?_)
        refine lv_iload hx hb dX0_takeIn_68 (lv_at hl 0 rfl) ?_
        refine lv_iconst (v := (-1)) hx hb dX0_takeIn_70 (by decide) ?_
        refine lv_icmp_ne (tgt := 76) hx hb dX0_takeIn_71 (by decide) (fun c4 => ?_) (fun c4 => ?_)
        · have hsp := z_f c4 hsp
          refine lv_iconst (v := 0) hx hb dX0_takeIn_76 (by decide) ?_
          refine lv_istore (lv' := [(6, .int 0), (5, .int v2), (0, .ref (q 1)), (3, .int lo3), (4, .int lo4)]) hx hb dX0_takeIn_77 hl (by decide) rfl (fun ls hl => ?_)
          exact K_79 13 _ _ ls gB_ mk_ mx_ (lo3) (lo4) (v2) (0) hP hD hS (lv_sub hl [2, 3, 4, 1, 0] rfl) hsp
        · have hsp := z_t c4 hsp
          refine lv_iconst (v := 0) hx hb dX0_takeIn_74 (by decide) ?_
          obtain ⟨rfl, rfl, rfl, rfl⟩ := z_i4 hsp
          exact hret _ _ ls 75 dX0_takeIn_75 rfl hP hD hS
      · have hsp := z_f c1 hsp
        refine lv_aload_n hx hb dX0_takeIn_15 rfl (lv_at hl 0 rfl) ?_
        refine va_get (D := dD) (ci := 0) (v := .ref (q 2)) (C := RX0) (T := TX0) (N := 3) hx hb hts iX0 hown hK.1 hP 0 rfl rfl 0 (by decide) f9 (fun _ h9 => h9) rfl dX0_takeIn_16 ?_
        refine lv_iload hx hb dX0_takeIn_19 (lv_at hl 3 rfl) ?_
        obtain ⟨h23, hsp⟩ := z_in hsp
        refine va_iald hx hb hK.1 hP 1 0 rfl rfl h23 dX0_takeIn_21 ?_
        refine lv_if_eq (tgt := 56) hx hb dX0_takeIn_22 (by decide) (fun c24 => ?_) (fun c24 => ?_)
        · have hsp := z_t c24 hsp
          obtain ⟨x25, ex25, hsp⟩ := z_lt hsp
          refine lv_iinc (v := x25) (lv' := [(5, .int x25), (0, .ref (q 1)), (3, .int lo3), (4, .int lo4)]) hx hb dX0_takeIn_56 hl (k := 3) rfl (by rw [ex25]; rfl) (by decide) rfl (fun ls hl => ?_)
          refine lv_goto (tgt := 8) hx hb dX0_takeIn_59 (by decide) ?_
          exact ih8 _ _ ls gB_ mk_ mx_ (lo3) (lo4) (x25) hP hD hS (lv_sub hl [1, 2, 3, 0] rfl) hsp
        · have hsp := z_f c24 hsp
          refine lv_iload_n hx hb dX0_takeIn_25 rfl (lv_at hl 1 rfl) ?_
          refine lv_iload hx hb dX0_takeIn_26 (lv_at hl 3 rfl) ?_
          obtain ⟨v26, hc27, hsp⟩ := z_b1 hsp
          refine z_callSi ⟨hx, hb, hml, hown, hts⟩ hK (c_X0_has l dD cI cA (lo3) (lo5) v26 hc27) (va_cwS 2 hts gX0_takeIn_X0_has rfl rfl rfl (by decide +kernel) ⟨Nat.le_of_ble_eq_true rfl, Nat.le_of_ble_eq_true rfl⟩) (zJ.of (wc := []) (wc1 := []) (wr := [zB q gB_, zA cI (q 2) 12 mk_, zA cI (q 3) 12 mx_]) (w2 := [zB q gB_, zA cI (q 2) 12 mk_, zA cI (q 3) 12 mx_]) hP hD hS hA [] [0, 1, 2] [0, 1, 2] rfl rfl rfl rfl rfl rfl rfl) hS rfl hl.1 rfl (Nat.le_of_ble_eq_true rfl) dX0_takeIn_28 ⟨Nat.zero_le _, Nat.zero_le _⟩ (fun H locs hP hD hS => ?_)
          refine lv_if_eq (tgt := 56) hx hb dX0_takeIn_31 (by decide) (fun c28 => ?_) (fun c28 => ?_)
          · have hsp := z_t c28 hsp
            obtain ⟨x29, ex29, hsp⟩ := z_lt hsp
            refine lv_iinc (v := x29) (lv' := [(5, .int x29), (0, .ref (q 1)), (3, .int lo3), (4, .int lo4)]) hx hb dX0_takeIn_56 hl (k := 3) rfl (by rw [ex29]; rfl) (by decide) rfl (fun ls hl => ?_)
            refine lv_goto (tgt := 8) hx hb dX0_takeIn_59 (by decide) ?_
            exact ih8 _ _ ls gB_ mk_ mx_ (lo3) (lo4) (x29) hP hD hS (lv_sub hl [1, 2, 3, 0] rfl) hsp
          · have hsp := z_f c28 hsp
            refine lv_iload_n hx hb dX0_takeIn_34 rfl (lv_at hl 1 rfl) ?_
            refine lv_aload_n hx hb dX0_takeIn_35 rfl (lv_at hl 0 rfl) ?_
            refine va_get (D := dD) (ci := 0) (v := .ref (q 2)) (C := RX0) (T := TX0) (N := 3) hx hb hts iX0 hown hK.1 hP 0 rfl rfl 0 (by decide) f9 (fun _ h9 => h9) rfl dX0_takeIn_36 ?_
            refine lv_iload hx hb dX0_takeIn_39 (lv_at hl 3 rfl) ?_
            obtain ⟨h30, hsp⟩ := z_in hsp
            refine va_iald hx hb hK.1 hP 1 0 rfl rfl h30 dX0_takeIn_41 ?_
            refine lv_ixor hx hb dX0_takeIn_42 ?_
            obtain ⟨x31, ex31, hsp⟩ := z_lt hsp
            refine z_top ex31 ?_
            refine lv_istore_n (lv' := [(3, .int x31), (0, .ref (q 1)), (4, .int lo4), (5, .int lo5)]) hx hb dX0_takeIn_43 rfl hl (by decide) rfl (fun ls hl => ?_)
            refine lv_iload hx hb dX0_takeIn_44 (lv_at hl 2 rfl) ?_
            refine lv_aload_n hx hb dX0_takeIn_46 rfl (lv_at hl 1 rfl) ?_
            refine va_get (D := dD) (ci := 0) (v := .ref (q 3)) (C := RX0) (T := TX0) (N := 3) hx hb hts iX0 hown hK.1 hP 0 rfl rfl 1 (by decide) f15 (fun _ h9 => h9) rfl dX0_takeIn_47 ?_
            refine lv_iload hx hb dX0_takeIn_50 (lv_at hl 3 rfl) ?_
            obtain ⟨h32, hsp⟩ := z_in hsp
            refine va_iald hx hb hK.1 hP 2 0 rfl rfl h32 dX0_takeIn_52 ?_
            refine lv_ixor hx hb dX0_takeIn_53 ?_
            obtain ⟨x33, ex33, hsp⟩ := z_lt hsp
            refine z_top ex33 ?_
            refine lv_istore (lv' := [(4, .int x33), (3, .int x31), (0, .ref (q 1)), (5, .int lo5)]) hx hb dX0_takeIn_54 hl (by decide) rfl (fun ls hl => ?_)
            obtain ⟨x34, ex34, hsp⟩ := z_lt hsp
            refine lv_iinc (v := x34) (lv' := [(5, .int x34), (4, .int x33), (3, .int x31), (0, .ref (q 1))]) hx hb dX0_takeIn_56 hl (k := 3) rfl (by rw [ex34]; rfl) (by decide) rfl (fun ls hl => ?_)
            refine lv_goto (tgt := 8) hx hb dX0_takeIn_59 (by decide) ?_
            exact ih8 _ _ ls gB_ mk_ mx_ (x31) (x33) (x34) hP hD hS (lv_sub hl [3, 2, 1, 0] rfl) hsp
  unfold s_X0_takeIn at hsp
  refine lv_iload_n hx hb dX0_takeIn_0 rfl (lv_at hl 1 rfl) ?_
  refine lv_istore_n (lv' := [(3, .int p1), (0, .ref (q 1)), (1, .int p1), (2, .int p2)]) hx hb dX0_takeIn_1 rfl hl (by decide) rfl (fun ls hl => ?_)
  refine lv_iload_n hx hb dX0_takeIn_2 rfl (lv_at hl 3 rfl) ?_
  refine lv_istore (lv' := [(4, .int p2), (3, .int p1), (0, .ref (q 1)), (1, .int p1), (2, .int p2)]) hx hb dX0_takeIn_3 hl (by decide) rfl (fun ls hl => ?_)
  refine lv_iconst (v := 0) hx hb dX0_takeIn_5 (by decide) ?_
  refine lv_istore (lv' := [(5, .int 0), (4, .int p2), (3, .int p1), (0, .ref (q 1)), (1, .int p1), (2, .int p2)]) hx hb dX0_takeIn_6 hl (by decide) rfl (fun ls hl => ?_)
  exact K_8 13 _ _ ls gB mk mx (p1) (p2) (0) hP hD hS (lv_sub hl [3, 2, 1, 0] rfl) hsp
def s_X0_tearLeast_b2  : Nat → (zF) → (zF) → (zF) → (Int32) → Option ((zF) × (zF) × (zF))
  | 0, _, _, _, _ => none
  | n2 + 1, gB_, mk_, mx_, lo1 => (if 12 ≤ lo1 then some (gB_, mk_, mx_) else if lo1 < 0 ∨ 12 ≤ (lo1).toNatClampNeg then none else (if (mk_ (lo1).toNatClampNeg) = 0 then zl (lo1 + 1) fun (x4 : Int32) => (s_X0_tearLeast_b2  n2 gB_ mk_ mx_ (x4)) else if lo1 < 0 ∨ 12 ≤ (lo1).toNatClampNeg then none else zl (upd mk_ (lo1).toNatClampNeg (0)) fun (mk6 : zF) => if lo1 < 0 ∨ 12 ≤ (lo1).toNatClampNeg then none else zl (upd mx_ (lo1).toNatClampNeg (0)) fun (mx8 : zF) => zl (va_up gB_ 2 (((gB_ 2) - 1))) fun (gB9 : zF) => some (gB9, mk6, mx8)))
def s_X0_tearLeast (gB : zF) (mk : zF) (mx : zF) : Option ((zF) × (zF) × (zF)) := (s_X0_tearLeast_b2  13 gB mk mx (0))
abbrev rm_X0_tearLeast : Room := { frames := 0, cells := 0, slots := 0, locals := 0 }
set_option maxHeartbeats 4000000 in
set_option maxRecDepth 100000 in
theorem c_X0_tearLeast (l : Launch) (dD : va_G) (cI cA : ClassId) (q : Nat → Nat) (gB : zF) (mk : zF) (mx : zF) (r_gB : zF) (r_mk : zF) (r_mx : zF) (hsp : s_X0_tearLeast gB mk mx = some (r_gB, r_mk, r_mx)) : zMv l yX0_tearLeast wsX0_tearLeast rm_X0_tearLeast dD cI cA [.ref (q 1)] ([zB q gB, zA cI (q 2) 12 mk, zA cI (q 3) 12 mx]) ([zB q r_gB, zA cI (q 2) 12 r_mk, zA cI (q 3) 12 r_mx]) := by
  refine zMv_of (cc := cX0_tearLeast) (maxL := 2) (by decide) rfl (Nat.le_of_ble_eq_true rfl) ?_
  intro p e s m args below meth c A Q ls hx hb hml hown hts hK hA hP hD hl hret
  have hown : s.vm.findClass RX0 = some m.cls := hown
  have iX0 : ∀ w ∈ wsX00, w ∈ wsX0_tearLeast := by decide +kernel
  have f9 := hts (.fieldLink RX0 9 "MeshField$Basis" "masks" "[I") (by decide +kernel)
  have f15 := hts (.fieldLink RX0 15 "MeshField$Basis" "mixed" "[I") (by decide +kernel)
  have f24 := hts (.fieldLink RX0 24 "MeshField$Basis" "rank" "I") (by decide +kernel)
  have hS : va_S A s.heap s.heap [] := va_S.rf
  have hl : lv_has ls 2 [(0, .ref (q 1))] := hl
  have K_2 : ∀ (nf : Nat) (H : Heap) (locs : List Loc) (ls : Array Slot) (gB_ : zF) (mk_ : zF) (mx_ : zF) (lo1 : Int32), va_P dD vwCl ([zB q gB_, zA cI (q 2) 12 mk_, zA cI (q 3) 12 mx_]) H → va_D A ([zB q gB_, zA cI (q 2) 12 mk_, zA cI (q 3) 12 mx_]) → va_S A s.heap H locs → lv_has ls 2 [(0, .ref (q 1)), (1, .int lo1)] → s_X0_tearLeast_b2  nf gB_ mk_ mx_ lo1 = some (r_gB, r_mk, r_mx) → W p l e rm_X0_tearLeast s m args below meth c H locs 0 0 Q (F0 m 2 ls []) := by
    intro nf
    induction nf with
    | zero =>
      intro H locs ls gB_ mk_ mx_ lo1 hP hD hS hl hsp
      exact absurd (show (none : Option ((zF) × (zF) × (zF))) = some (r_gB, r_mk, r_mx) from hsp) (fun h => by cases h)
    | succ n2 ih2 =>
      intro H locs ls gB_ mk_ mx_ lo1 hP hD hS hl hsp
      rw [s_X0_tearLeast_b2] at hsp
      refine lv_iload_n hx hb dX0_tearLeast_2 rfl (lv_at hl 1 rfl) ?_
      refine lv_bipush (v := 12) hx hb dX0_tearLeast_3 (by decide) ?_
      refine lv_icmp_ge (tgt := 48) hx hb dX0_tearLeast_5 (by decide) (fun c1 => ?_) (fun c1 => ?_)
      · have hsp := z_t c1 hsp
        obtain ⟨rfl, rfl, rfl⟩ := z_i3 hsp
        exact hret _ _ ls 48 dX0_tearLeast_48 hP hD hS
      · have hsp := z_f c1 hsp
        refine lv_aload_n hx hb dX0_tearLeast_8 rfl (lv_at hl 0 rfl) ?_
        refine va_get (D := dD) (ci := 0) (v := .ref (q 2)) (C := RX0) (T := TX0) (N := 3) hx hb hts iX0 hown hK.1 hP 0 rfl rfl 0 (by decide) f9 (fun _ h9 => h9) rfl dX0_tearLeast_9 ?_
        refine lv_iload_n hx hb dX0_tearLeast_12 rfl (lv_at hl 1 rfl) ?_
        obtain ⟨h2, hsp⟩ := z_in hsp
        refine va_iald hx hb hK.1 hP 1 0 rfl rfl h2 dX0_tearLeast_13 ?_
        refine lv_if_eq (tgt := 42) hx hb dX0_tearLeast_14 (by decide) (fun c3 => ?_) (fun c3 => ?_)
        · have hsp := z_t c3 hsp
          obtain ⟨x4, ex4, hsp⟩ := z_lt hsp
          refine lv_iinc (v := x4) (lv' := [(1, .int x4), (0, .ref (q 1))]) hx hb dX0_tearLeast_42 hl (k := 1) rfl (by rw [ex4]; rfl) (by decide) rfl (fun ls hl => ?_)
          refine lv_goto (tgt := 2) hx hb dX0_tearLeast_45 (by decide) ?_
          exact ih2 _ _ ls gB_ mk_ mx_ (x4) hP hD hS (lv_sub hl [1, 0] rfl) hsp
        · have hsp := z_f c3 hsp
          refine lv_aload_n hx hb dX0_tearLeast_17 rfl (lv_at hl 0 rfl) ?_
          refine va_get (D := dD) (ci := 0) (v := .ref (q 2)) (C := RX0) (T := TX0) (N := 3) hx hb hts iX0 hown hK.1 hP 0 rfl rfl 0 (by decide) f9 (fun _ h9 => h9) rfl dX0_tearLeast_18 ?_
          refine lv_iload_n hx hb dX0_tearLeast_21 rfl (lv_at hl 1 rfl) ?_
          refine lv_iconst (v := 0) hx hb dX0_tearLeast_22 (by decide) ?_
          obtain ⟨h5, hsp⟩ := z_in hsp
          refine va_iast hx hb hK.1 hP hD hS 1 0 rfl rfl h5 dX0_tearLeast_23 (fun H locs hP hD hS => ?_)
          obtain ⟨mk6, emk6, hsp⟩ := z_lt hsp
          have hP : va_P dD vwCl ([zB q gB_, zA cI (q 2) 12 mk6, zA cI (q 3) 12 mx_]) H := by rw [emk6]; exact hP
          have hD : va_D A ([zB q gB_, zA cI (q 2) 12 mk6, zA cI (q 3) 12 mx_]) := by rw [emk6]; exact hD
          refine lv_aload_n hx hb dX0_tearLeast_24 rfl (lv_at hl 0 rfl) ?_
          refine va_get (D := dD) (ci := 0) (v := .ref (q 3)) (C := RX0) (T := TX0) (N := 3) hx hb hts iX0 hown hK.1 hP 0 rfl rfl 1 (by decide) f15 (fun _ h9 => h9) rfl dX0_tearLeast_25 ?_
          refine lv_iload_n hx hb dX0_tearLeast_28 rfl (lv_at hl 1 rfl) ?_
          refine lv_iconst (v := 0) hx hb dX0_tearLeast_29 (by decide) ?_
          obtain ⟨h7, hsp⟩ := z_in hsp
          refine va_iast hx hb hK.1 hP hD hS 2 0 rfl rfl h7 dX0_tearLeast_30 (fun H locs hP hD hS => ?_)
          obtain ⟨mx8, emx8, hsp⟩ := z_lt hsp
          have hP : va_P dD vwCl ([zB q gB_, zA cI (q 2) 12 mk6, zA cI (q 3) 12 mx8]) H := by rw [emx8]; exact hP
          have hD : va_D A ([zB q gB_, zA cI (q 2) 12 mk6, zA cI (q 3) 12 mx8]) := by rw [emx8]; exact hD
          refine lv_aload_n hx hb dX0_tearLeast_31 rfl (lv_at hl 0 rfl) ?_
          refine lv_dup hx hb dX0_tearLeast_32 rfl ?_
          refine va_get (D := dD) (ci := 0) (v := .int (gB_ 2)) (C := RX0) (T := TX0) (N := 3) hx hb hts iX0 hown hK.1 hP 0 rfl rfl 2 (by decide) f24 (fun _ h9 => h9) rfl dX0_tearLeast_33 ?_
          refine lv_iconst (v := 1) hx hb dX0_tearLeast_36 (by decide) ?_
          refine lv_isub hx hb dX0_tearLeast_37 ?_
          refine va_put (D := dD) (ci := 0) (v := .int ((gB_ 2) - 1)) (ty := .int) (C := RX0) (T := TX0) (N := 3) hx hb hts iX0 tyX0 tyX0_ok nmX0 hown hK.1 hP hD hS 0 rfl rfl 2 (by decide) f24 (fun _ h9 => h9) rfl (by decide +kernel) rfl rfl (Nat.le_of_ble_eq_true rfl) dX0_tearLeast_38 (fun H locs hP hD hS => ?_)
          obtain ⟨gB9, egB9, hsp⟩ := z_lt hsp
          have hP : va_P dD vwCl ([zB q gB9, zA cI (q 2) 12 mk6, zA cI (q 3) 12 mx8]) H := by rw [egB9]; exact hP
          have hD : va_D A ([zB q gB9, zA cI (q 2) 12 mk6, zA cI (q 3) 12 mx8]) := by rw [egB9]; exact hD
          obtain ⟨rfl, rfl, rfl⟩ := z_i3 hsp
          exact hret _ _ ls 41 dX0_tearLeast_41 hP hD hS
  unfold s_X0_tearLeast at hsp
  refine lv_iconst (v := 0) hx hb dX0_tearLeast_0 (by decide) ?_
  refine lv_istore_n (lv' := [(1, .int 0), (0, .ref (q 1))]) hx hb dX0_tearLeast_1 rfl hl (by decide) rfl (fun ls hl => ?_)
  exact K_2 13 _ _ ls gB mk mx (0) hP hD hS (lv_sub hl [1, 0] rfl) hsp
def s_X0_headOfNth_b5 (gB : zF) (mk : zF) : Nat → (Int32) → (Int32) → (Int32) → Option Int32
  | 0, _, _, _ => none
  | n5 + 1, lo1, lo2, lo3 => (if lo3 < 0 then some ((-1)) else if lo3 < 0 ∨ 12 ≤ (lo3).toNatClampNeg then none else (if (mk (lo3).toNatClampNeg) = 0 then zl (lo3 + (-1)) fun (x4 : Int32) => (s_X0_headOfNth_b5 gB mk n5 (lo1) (lo2) (x4)) else (if lo2 = lo1 then some (lo3) else zl (lo2 + 1) fun (x6 : Int32) => zl (lo3 + (-1)) fun (x7 : Int32) => (s_X0_headOfNth_b5 gB mk n5 (lo1) (x6) (x7)))))
def s_X0_headOfNth (gB : zF) (mk : zF) (p1 : Int32) : Option Int32 := (s_X0_headOfNth_b5 gB mk 13 (p1) (0) (11))
abbrev rm_X0_headOfNth : Room := { frames := 0, cells := 0, slots := 0, locals := 0 }
set_option maxHeartbeats 4000000 in
set_option maxRecDepth 100000 in
theorem c_X0_headOfNth (l : Launch) (dD : va_G) (cI cA : ClassId) (q : Nat → Nat) (gB : zF) (mk : zF) (p1 : Int32) (rv : Int32) (hsp : s_X0_headOfNth gB mk p1 = some rv) : zMi l yX0_headOfNth wsX0_headOfNth rm_X0_headOfNth dD cI cA [.ref (q 1), .int p1] ([zB q gB, zA cI (q 2) 12 mk]) ([zB q gB, zA cI (q 2) 12 mk]) rv := by
  refine zMi_of (cc := cX0_headOfNth) (maxL := 4) (by decide) rfl (Nat.le_of_ble_eq_true rfl) ?_
  intro p e s m args below meth c A Q ls hx hb hml hown hts hK hA hP hD hl hret
  have hown : s.vm.findClass RX0 = some m.cls := hown
  have iX0 : ∀ w ∈ wsX00, w ∈ wsX0_headOfNth := by decide +kernel
  have f9 := hts (.fieldLink RX0 9 "MeshField$Basis" "masks" "[I") (by decide +kernel)
  have hS : va_S A s.heap s.heap [] := va_S.rf
  have hl : lv_has ls 4 [(0, .ref (q 1)), (1, .int p1)] := hl
  have K_5 : ∀ (nf : Nat) (H : Heap) (locs : List Loc) (ls : Array Slot) (lo1 : Int32) (lo2 : Int32) (lo3 : Int32), va_P dD vwCl ([zB q gB, zA cI (q 2) 12 mk]) H → va_D A ([zB q gB, zA cI (q 2) 12 mk]) → va_S A s.heap H locs → lv_has ls 4 [(0, .ref (q 1)), (1, .int lo1), (2, .int lo2), (3, .int lo3)] → s_X0_headOfNth_b5 gB mk nf lo1 lo2 lo3 = some rv → W p l e rm_X0_headOfNth s m args below meth c H locs 0 0 Q (F0 m 5 ls []) := by
    intro nf
    induction nf with
    | zero =>
      intro H locs ls lo1 lo2 lo3 hP hD hS hl hsp
      exact absurd (show (none : Option Int32) = some rv from hsp) (fun h => by cases h)
    | succ n5 ih5 =>
      intro H locs ls lo1 lo2 lo3 hP hD hS hl hsp
      rw [s_X0_headOfNth_b5] at hsp
      refine lv_iload_n hx hb dX0_headOfNth_5 rfl (lv_at hl 3 rfl) ?_
      refine lv_if_lt (tgt := 34) hx hb dX0_headOfNth_6 (by decide) (fun c1 => ?_) (fun c1 => ?_)
      · have hsp := z_t c1 hsp
        refine lv_iconst (v := (-1)) hx hb dX0_headOfNth_34 (by decide) ?_
        obtain rfl := Option.some.inj hsp
        exact hret _ _ ls 35 dX0_headOfNth_35 rfl hP hD hS
      · have hsp := z_f c1 hsp
        refine lv_aload_n hx hb dX0_headOfNth_9 rfl (lv_at hl 0 rfl) ?_
        refine va_get (D := dD) (ci := 0) (v := .ref (q 2)) (C := RX0) (T := TX0) (N := 3) hx hb hts iX0 hown hK.1 hP 0 rfl rfl 0 (by decide) f9 (fun _ h9 => h9) rfl dX0_headOfNth_10 ?_
        refine lv_iload_n hx hb dX0_headOfNth_13 rfl (lv_at hl 3 rfl) ?_
        obtain ⟨h2, hsp⟩ := z_in hsp
        refine va_iald hx hb hK.1 hP 1 0 rfl rfl h2 dX0_headOfNth_14 ?_
        refine lv_if_eq (tgt := 28) hx hb dX0_headOfNth_15 (by decide) (fun c3 => ?_) (fun c3 => ?_)
        · have hsp := z_t c3 hsp
          obtain ⟨x4, ex4, hsp⟩ := z_lt hsp
          refine lv_iinc (v := x4) (lv' := [(3, .int x4), (0, .ref (q 1)), (1, .int lo1), (2, .int lo2)]) hx hb dX0_headOfNth_28 hl (k := 3) rfl (by rw [ex4]; rfl) (by decide) rfl (fun ls hl => ?_)
          refine lv_goto (tgt := 5) hx hb dX0_headOfNth_31 (by decide) ?_
          exact ih5 _ _ ls (lo1) (lo2) (x4) hP hD hS (lv_sub hl [1, 2, 3, 0] rfl) hsp
        · have hsp := z_f c3 hsp
          refine lv_iload_n hx hb dX0_headOfNth_18 rfl (lv_at hl 2 rfl) ?_
          refine lv_iload_n hx hb dX0_headOfNth_19 rfl (lv_at hl 1 rfl) ?_
          refine lv_icmp_ne (tgt := 25) hx hb dX0_headOfNth_20 (by decide) (fun c5 => ?_) (fun c5 => ?_)
          · have hsp := z_f c5 hsp
            obtain ⟨x6, ex6, hsp⟩ := z_lt hsp
            refine lv_iinc (v := x6) (lv' := [(2, .int x6), (0, .ref (q 1)), (1, .int lo1), (3, .int lo3)]) hx hb dX0_headOfNth_25 hl (k := 2) rfl (by rw [ex6]; rfl) (by decide) rfl (fun ls hl => ?_)
            obtain ⟨x7, ex7, hsp⟩ := z_lt hsp
            refine lv_iinc (v := x7) (lv' := [(3, .int x7), (2, .int x6), (0, .ref (q 1)), (1, .int lo1)]) hx hb dX0_headOfNth_28 hl (k := 3) rfl (by rw [ex7]; rfl) (by decide) rfl (fun ls hl => ?_)
            refine lv_goto (tgt := 5) hx hb dX0_headOfNth_31 (by decide) ?_
            exact ih5 _ _ ls (lo1) (x6) (x7) hP hD hS (lv_sub hl [2, 3, 1, 0] rfl) hsp
          · have hsp := z_t c5 hsp
            refine lv_iload_n hx hb dX0_headOfNth_23 rfl (lv_at hl 3 rfl) ?_
            obtain rfl := Option.some.inj hsp
            exact hret _ _ ls 24 dX0_headOfNth_24 rfl hP hD hS
  unfold s_X0_headOfNth at hsp
  refine lv_iconst (v := 0) hx hb dX0_headOfNth_0 (by decide) ?_
  refine lv_istore_n (lv' := [(2, .int 0), (0, .ref (q 1)), (1, .int p1)]) hx hb dX0_headOfNth_1 rfl hl (by decide) rfl (fun ls hl => ?_)
  refine lv_bipush (v := 11) hx hb dX0_headOfNth_2 (by decide) ?_
  refine lv_istore_n (lv' := [(3, .int 11), (2, .int 0), (0, .ref (q 1)), (1, .int p1)]) hx hb dX0_headOfNth_4 rfl hl (by decide) rfl (fun ls hl => ?_)
  exact K_5 13 _ _ ls (p1) (0) (11) hP hD hS (lv_sub hl [2, 3, 1, 0] rfl) hsp
def s_X0_maskOfNth (gB : zF) (mk : zF) (p1 : Int32) : Option Int32 := zb1 (s_X0_headOfNth gB mk (p1)) fun (v1 : Int32) => (if v1 = (-1) then some ((-1)) else if v1 < 0 ∨ 12 ≤ (v1).toNatClampNeg then none else some ((mk (v1).toNatClampNeg)))
abbrev rm_X0_maskOfNth : Room := { frames := 1, cells := 0, slots := 0, locals := 23 }
set_option maxHeartbeats 4000000 in
set_option maxRecDepth 100000 in
theorem c_X0_maskOfNth (l : Launch) (dD : va_G) (cI cA : ClassId) (q : Nat → Nat) (gB : zF) (mk : zF) (p1 : Int32) (rv : Int32) (hsp : s_X0_maskOfNth gB mk p1 = some rv) : zMi l yX0_maskOfNth wsX0_maskOfNth rm_X0_maskOfNth dD cI cA [.ref (q 1), .int p1] ([zB q gB, zA cI (q 2) 12 mk]) ([zB q gB, zA cI (q 2) 12 mk]) rv := by
  refine zMi_of (cc := cX0_maskOfNth) (maxL := 3) (by decide) rfl (Nat.le_of_ble_eq_true rfl) ?_
  intro p e s m args below meth c A Q ls hx hb hml hown hts hK hA hP hD hl hret
  have hown : s.vm.findClass RX0 = some m.cls := hown
  have iX0 : ∀ w ∈ wsX00, w ∈ wsX0_maskOfNth := by decide +kernel
  have f9 := hts (.fieldLink RX0 9 "MeshField$Basis" "masks" "[I") (by decide +kernel)
  have hS : va_S A s.heap s.heap [] := va_S.rf
  have hl : lv_has ls 3 [(0, .ref (q 1)), (1, .int p1)] := hl
  unfold s_X0_maskOfNth at hsp
  refine lv_aload_n hx hb dX0_maskOfNth_0 rfl (lv_at hl 0 rfl) ?_
  refine lv_iload_n hx hb dX0_maskOfNth_1 rfl (lv_at hl 1 rfl) ?_
  obtain ⟨v1, hc2, hsp⟩ := z_b1 hsp
  refine z_callVi ⟨hx, hb, hml, hown, hts⟩ hK (c_X0_headOfNth l dD cI cA q gB mk (p1) v1 hc2) (cwV 1 hts gX0_maskOfNth_X0_headOfNth rfl rfl rfl (by decide +kernel) ⟨Nat.le_of_ble_eq_true rfl, Nat.le_of_ble_eq_true rfl⟩) (zJ.of (wc := [zB q gB, zA cI (q 2) 12 mk]) (wc1 := [zB q gB, zA cI (q 2) 12 mk]) (wr := []) (w2 := [zB q gB, zA cI (q 2) 12 mk]) hP hD hS hA [0, 1] [] [0, 1] rfl rfl rfl rfl rfl rfl rfl) hS 0 0 rfl rfl rfl rfl hl.1 rfl (Nat.le_of_ble_eq_true rfl) dX0_maskOfNth_2 ⟨Nat.zero_le _, Nat.zero_le _⟩ (fun H locs hP hD hS => ?_)
  refine lv_istore_n (lv' := [(2, .int v1), (0, .ref (q 1)), (1, .int p1)]) hx hb dX0_maskOfNth_5 rfl hl (by decide) rfl (fun ls hl => ?_)
  refine lv_iload_n hx hb dX0_maskOfNth_6 rfl (lv_at hl 0 rfl) ?_
  refine lv_iconst (v := (-1)) hx hb dX0_maskOfNth_7 (by decide) ?_
  refine lv_icmp_ne (tgt := 15) hx hb dX0_maskOfNth_8 (by decide) (fun c3 => ?_) (fun c3 => ?_)
  · have hsp := z_f c3 hsp
    refine lv_aload_n hx hb dX0_maskOfNth_15 rfl (lv_at hl 1 rfl) ?_
    refine va_get (D := dD) (ci := 0) (v := .ref (q 2)) (C := RX0) (T := TX0) (N := 3) hx hb hts iX0 hown hK.1 hP 0 rfl rfl 0 (by decide) f9 (fun _ h9 => h9) rfl dX0_maskOfNth_16 ?_
    refine lv_iload_n hx hb dX0_maskOfNth_19 rfl (lv_at hl 0 rfl) ?_
    obtain ⟨h4, hsp⟩ := z_in hsp
    refine va_iald hx hb hK.1 hP 1 0 rfl rfl h4 dX0_maskOfNth_20 ?_
    obtain rfl := Option.some.inj hsp
    exact hret _ _ ls 21 dX0_maskOfNth_21 rfl hP hD hS
  · have hsp := z_t c3 hsp
    refine lv_iconst (v := (-1)) hx hb dX0_maskOfNth_11 (by decide) ?_
    refine lv_goto (tgt := 21) hx hb dX0_maskOfNth_12 (by decide) ?_
    obtain rfl := Option.some.inj hsp
    exact hret _ _ ls 21 dX0_maskOfNth_21 rfl hP hD hS
def s_X0_dataOfNth (gB : zF) (mk : zF) (mx : zF) (p1 : Int32) : Option Int32 := zb1 (s_X0_headOfNth gB mk (p1)) fun (v1 : Int32) => (if v1 = (-1) then some (0) else if v1 < 0 ∨ 12 ≤ (v1).toNatClampNeg then none else some ((mx (v1).toNatClampNeg)))
abbrev rm_X0_dataOfNth : Room := { frames := 1, cells := 0, slots := 0, locals := 23 }
set_option maxHeartbeats 4000000 in
set_option maxRecDepth 100000 in
theorem c_X0_dataOfNth (l : Launch) (dD : va_G) (cI cA : ClassId) (q : Nat → Nat) (gB : zF) (mk : zF) (mx : zF) (p1 : Int32) (rv : Int32) (hsp : s_X0_dataOfNth gB mk mx p1 = some rv) : zMi l yX0_dataOfNth wsX0_dataOfNth rm_X0_dataOfNth dD cI cA [.ref (q 1), .int p1] ([zB q gB, zA cI (q 2) 12 mk, zA cI (q 3) 12 mx]) ([zB q gB, zA cI (q 2) 12 mk, zA cI (q 3) 12 mx]) rv := by
  refine zMi_of (cc := cX0_dataOfNth) (maxL := 3) (by decide) rfl (Nat.le_of_ble_eq_true rfl) ?_
  intro p e s m args below meth c A Q ls hx hb hml hown hts hK hA hP hD hl hret
  have hown : s.vm.findClass RX0 = some m.cls := hown
  have iX0 : ∀ w ∈ wsX00, w ∈ wsX0_dataOfNth := by decide +kernel
  have f15 := hts (.fieldLink RX0 15 "MeshField$Basis" "mixed" "[I") (by decide +kernel)
  have hS : va_S A s.heap s.heap [] := va_S.rf
  have hl : lv_has ls 3 [(0, .ref (q 1)), (1, .int p1)] := hl
  unfold s_X0_dataOfNth at hsp
  refine lv_aload_n hx hb dX0_dataOfNth_0 rfl (lv_at hl 0 rfl) ?_
  refine lv_iload_n hx hb dX0_dataOfNth_1 rfl (lv_at hl 1 rfl) ?_
  obtain ⟨v1, hc2, hsp⟩ := z_b1 hsp
  refine z_callVi ⟨hx, hb, hml, hown, hts⟩ hK (c_X0_headOfNth l dD cI cA q gB mk (p1) v1 hc2) (cwV 1 hts gX0_dataOfNth_X0_headOfNth rfl rfl rfl (by decide +kernel) ⟨Nat.le_of_ble_eq_true rfl, Nat.le_of_ble_eq_true rfl⟩) (zJ.of (wc := [zB q gB, zA cI (q 2) 12 mk]) (wc1 := [zB q gB, zA cI (q 2) 12 mk]) (wr := [zA cI (q 3) 12 mx]) (w2 := [zB q gB, zA cI (q 2) 12 mk, zA cI (q 3) 12 mx]) hP hD hS hA [0, 1] [2] [1, 2, 0] rfl rfl rfl rfl rfl rfl rfl) hS 0 0 rfl rfl rfl rfl hl.1 rfl (Nat.le_of_ble_eq_true rfl) dX0_dataOfNth_2 ⟨Nat.zero_le _, Nat.zero_le _⟩ (fun H locs hP hD hS => ?_)
  refine lv_istore_n (lv' := [(2, .int v1), (0, .ref (q 1)), (1, .int p1)]) hx hb dX0_dataOfNth_5 rfl hl (by decide) rfl (fun ls hl => ?_)
  refine lv_iload_n hx hb dX0_dataOfNth_6 rfl (lv_at hl 0 rfl) ?_
  refine lv_iconst (v := (-1)) hx hb dX0_dataOfNth_7 (by decide) ?_
  refine lv_icmp_ne (tgt := 15) hx hb dX0_dataOfNth_8 (by decide) (fun c3 => ?_) (fun c3 => ?_)
  · have hsp := z_f c3 hsp
    refine lv_aload_n hx hb dX0_dataOfNth_15 rfl (lv_at hl 1 rfl) ?_
    refine va_get (D := dD) (ci := 0) (v := .ref (q 3)) (C := RX0) (T := TX0) (N := 3) hx hb hts iX0 hown hK.1 hP 0 rfl rfl 1 (by decide) f15 (fun _ h9 => h9) rfl dX0_dataOfNth_16 ?_
    refine lv_iload_n hx hb dX0_dataOfNth_19 rfl (lv_at hl 0 rfl) ?_
    obtain ⟨h4, hsp⟩ := z_in hsp
    refine va_iald hx hb hK.1 hP 2 0 rfl rfl h4 dX0_dataOfNth_20 ?_
    obtain rfl := Option.some.inj hsp
    exact hret _ _ ls 21 dX0_dataOfNth_21 rfl hP hD hS
  · have hsp := z_t c3 hsp
    refine lv_iconst (v := 0) hx hb dX0_dataOfNth_11 (by decide) ?_
    refine lv_goto (tgt := 21) hx hb dX0_dataOfNth_12 (by decide) ?_
    obtain rfl := Option.some.inj hsp
    exact hret _ _ ls 21 dX0_dataOfNth_21 rfl hP hD hS
def s_X0_mixInto_b16 (gB : zF) (mk : zF) (mx : zF) : Nat → (zF) → (Int32) → (Int32) → (Int32) → Option (zF)
  | 0, _, _, _, _ => none
  | n16 + 1, gH_, lo2, lo3, lo4 => (if lo4 < 0 then (if (gH_ 5) = 0 then zb1 (s_X0_maskOfNth gB mk (0)) fun (v5 : Int32) => zl (va_up gH_ 5 (v5)) fun (gH7 : zF) => zb1 (s_X0_dataOfNth gB mk mx (0)) fun (v8 : Int32) => zl (va_up gH7 6 (v8)) fun (gH10 : zF) => some (gH10) else some (gH_)) else if lo4 < 0 ∨ 12 ≤ (lo4).toNatClampNeg then none else (if (mk (lo4).toNatClampNeg) = 0 then zl (lo4 + (-1)) fun (x13 : Int32) => (s_X0_mixInto_b16 gB mk mx n16 gH_ (lo2) (lo3) (x13)) else zb1 (s_X0_has (lo2) (lo3)) fun (v14 : Int32) => (if v14 = 0 then zl (lo3 + 1) fun (x17 : Int32) => zl (lo4 + (-1)) fun (x18 : Int32) => (s_X0_mixInto_b16 gB mk mx n16 gH_ (lo2) (x17) (x18)) else if lo4 < 0 ∨ 12 ≤ (lo4).toNatClampNeg then none else zl (va_up gH_ 5 (((gH_ 5) ^^^ (mk (lo4).toNatClampNeg)))) fun (gH20 : zF) => if lo4 < 0 ∨ 12 ≤ (lo4).toNatClampNeg then none else zl (va_up gH20 6 (((gH20 6) ^^^ (mx (lo4).toNatClampNeg)))) fun (gH22 : zF) => zl (lo3 + 1) fun (x23 : Int32) => zl (lo4 + (-1)) fun (x24 : Int32) => (s_X0_mixInto_b16 gB mk mx n16 gH22 (lo2) (x23) (x24)))))
def s_X0_mixInto (gB : zF) (mk : zF) (mx : zF) (gH : zF) (p1 : Int32) : Option (zF) := zl (va_up gH 5 (0)) fun (gH1 : zF) => zl (va_up gH1 6 (0)) fun (gH2 : zF) => (s_X0_mixInto_b16 gB mk mx 13 gH2 (p1) (0) (11))
abbrev rm_X0_mixInto : Room := { frames := 2, cells := 0, slots := 0, locals := 45 }
set_option maxHeartbeats 4000000 in
set_option maxRecDepth 100000 in
theorem c_X0_mixInto (l : Launch) (dD : va_G) (cI cA : ClassId) (q : Nat → Nat) (aH : Nat) (gB : zF) (mk : zF) (mx : zF) (gH : zF) (p1 : Int32) (r_gH : zF) (hsp : s_X0_mixInto gB mk mx gH p1 = some (r_gH)) : zMv l yX0_mixInto wsX0_mixInto rm_X0_mixInto dD cI cA [.ref (q 1), .ref aH, .int p1] ([zB q gB, zA cI (q 2) 12 mk, zA cI (q 3) 12 mx, zL aH gH]) ([zB q gB, zA cI (q 2) 12 mk, zA cI (q 3) 12 mx, zL aH r_gH]) := by
  refine zMv_of (cc := cX0_mixInto) (maxL := 5) (by decide) rfl (Nat.le_of_ble_eq_true rfl) ?_
  intro p e s m args below meth c A Q ls hx hb hml hown hts hK hA hP hD hl hret
  have hown : s.vm.findClass RX0 = some m.cls := hown
  have iX3 : ∀ w ∈ wsX30, w ∈ wsX0_mixInto := by decide +kernel
  have iX0 : ∀ w ∈ wsX00, w ∈ wsX0_mixInto := by decide +kernel
  have f36 : (Cond.fieldLinkNest RX0 36 "MeshField$Letter" "mask" "I" "MeshField").before args s = true := hK.nw (by decide +kernel)
  have f41 : (Cond.fieldLinkNest RX0 41 "MeshField$Letter" "mixed" "I" "MeshField").before args s = true := hK.nw (by decide +kernel)
  have f9 := hts (.fieldLink RX0 9 "MeshField$Basis" "masks" "[I") (by decide +kernel)
  have f15 := hts (.fieldLink RX0 15 "MeshField$Basis" "mixed" "[I") (by decide +kernel)
  have hS : va_S A s.heap s.heap [] := va_S.rf
  have hl : lv_has ls 5 [(0, .ref (q 1)), (1, .ref aH), (2, .int p1)] := hl
  have K_16 : ∀ (nf : Nat) (H : Heap) (locs : List Loc) (ls : Array Slot) (gH_ : zF) (lo2 : Int32) (lo3 : Int32) (lo4 : Int32), va_P dD vwCl ([zB q gB, zA cI (q 2) 12 mk, zA cI (q 3) 12 mx, zL aH gH_]) H → va_D A ([zB q gB, zA cI (q 2) 12 mk, zA cI (q 3) 12 mx, zL aH gH_]) → va_S A s.heap H locs → lv_has ls 5 [(0, .ref (q 1)), (1, .ref aH), (2, .int lo2), (3, .int lo3), (4, .int lo4)] → s_X0_mixInto_b16 gB mk mx nf gH_ lo2 lo3 lo4 = some (r_gH) → W p l e rm_X0_mixInto s m args below meth c H locs 0 0 Q (F0 m 16 ls []) := by
    intro nf
    induction nf with
    | zero =>
      intro H locs ls gH_ lo2 lo3 lo4 hP hD hS hl hsp
      exact absurd (show (none : Option (zF)) = some (r_gH) from hsp) (fun h => by cases h)
    | succ n16 ih16 =>
      intro H locs ls gH_ lo2 lo3 lo4 hP hD hS hl hsp
      rw [s_X0_mixInto_b16] at hsp
      refine lv_iload hx hb dX0_mixInto_16 (lv_at hl 4 rfl) ?_
      refine lv_if_lt (tgt := 80) hx hb dX0_mixInto_18 (by decide) (fun c3 => ?_) (fun c3 => ?_)
      · have hsp := z_t c3 hsp
        refine lv_aload_n hx hb dX0_mixInto_80 rfl (lv_at hl 1 rfl) ?_
        refine va_getN (D := dD) (ci := 3) (v := .int (gH_ 5)) (C := RX3) (T := TX3) (N := 9) hx hb hts iX3 hown hK.1 hP 3 rfl rfl 5 (by decide) f36 (fun _ h9 => h9) rfl dX0_mixInto_81 ?_
        refine lv_if_ne (tgt := 105) hx hb dX0_mixInto_84 (by decide) (fun c4 => ?_) (fun c4 => ?_)
        · have hsp := z_f c4 hsp
          obtain rfl := Option.some.inj hsp
          exact hret _ _ ls 105 dX0_mixInto_105 hP hD hS
        · have hsp := z_t c4 hsp
          refine lv_aload_n hx hb dX0_mixInto_87 rfl (lv_at hl 1 rfl) ?_
          refine lv_aload_n hx hb dX0_mixInto_88 rfl (lv_at hl 0 rfl) ?_
          refine lv_iconst (v := 0) hx hb dX0_mixInto_89 (by decide) ?_
          obtain ⟨v5, hc6, hsp⟩ := z_b1 hsp
          refine z_callVi ⟨hx, hb, hml, hown, hts⟩ hK (c_X0_maskOfNth l dD cI cA q gB mk (0) v5 hc6) (cwV 1 hts gX0_mixInto_X0_maskOfNth rfl rfl rfl (by decide +kernel) ⟨Nat.le_of_ble_eq_true rfl, Nat.le_of_ble_eq_true rfl⟩) (zJ.of (wc := [zB q gB, zA cI (q 2) 12 mk]) (wc1 := [zB q gB, zA cI (q 2) 12 mk]) (wr := [zA cI (q 3) 12 mx, zL aH gH_]) (w2 := [zB q gB, zA cI (q 2) 12 mk, zA cI (q 3) 12 mx, zL aH gH_]) hP hD hS hA [0, 1] [2, 3] [2, 3, 0, 1] rfl rfl rfl rfl rfl rfl rfl) hS 0 0 rfl rfl rfl rfl hl.1 rfl (Nat.le_of_ble_eq_true rfl) dX0_mixInto_90 ⟨Nat.zero_le _, Nat.zero_le _⟩ (fun H locs hP hD hS => ?_)
          refine va_putN (D := dD) (ci := 3) (v := .int v5) (ty := .int) (C := RX3) (T := TX3) (N := 9) hx hb hts iX3 tyX3 tyX3_ok nmX3 hown hK.1 hP hD hS 3 rfl rfl 5 (by decide) f36 (fun _ h9 => h9) rfl (by decide +kernel) rfl rfl (Nat.le_of_ble_eq_true rfl) dX0_mixInto_93 (fun H locs hP hD hS => ?_)
          obtain ⟨gH7, egH7, hsp⟩ := z_lt hsp
          have hP : va_P dD vwCl ([zB q gB, zA cI (q 2) 12 mk, zA cI (q 3) 12 mx, zL aH gH7]) H := by rw [egH7]; exact hP
          have hD : va_D A ([zB q gB, zA cI (q 2) 12 mk, zA cI (q 3) 12 mx, zL aH gH7]) := by rw [egH7]; exact hD
          refine lv_aload_n hx hb dX0_mixInto_96 rfl (lv_at hl 1 rfl) ?_
          refine lv_aload_n hx hb dX0_mixInto_97 rfl (lv_at hl 0 rfl) ?_
          refine lv_iconst (v := 0) hx hb dX0_mixInto_98 (by decide) ?_
          obtain ⟨v8, hc9, hsp⟩ := z_b1 hsp
          refine z_callVi ⟨hx, hb, hml, hown, hts⟩ hK (c_X0_dataOfNth l dD cI cA q gB mk mx (0) v8 hc9) (cwV 1 hts gX0_mixInto_X0_dataOfNth rfl rfl rfl (by decide +kernel) ⟨Nat.le_of_ble_eq_true rfl, Nat.le_of_ble_eq_true rfl⟩) (zJ.of (wc := [zB q gB, zA cI (q 2) 12 mk, zA cI (q 3) 12 mx]) (wc1 := [zB q gB, zA cI (q 2) 12 mk, zA cI (q 3) 12 mx]) (wr := [zL aH gH7]) (w2 := [zB q gB, zA cI (q 2) 12 mk, zA cI (q 3) 12 mx, zL aH gH7]) hP hD hS hA [0, 1, 2] [3] [1, 2, 3, 0] rfl rfl rfl rfl rfl rfl rfl) hS 0 0 rfl rfl rfl rfl hl.1 rfl (Nat.le_of_ble_eq_true rfl) dX0_mixInto_99 ⟨Nat.zero_le _, Nat.zero_le _⟩ (fun H locs hP hD hS => ?_)
          refine va_putN (D := dD) (ci := 3) (v := .int v8) (ty := .int) (C := RX3) (T := TX3) (N := 9) hx hb hts iX3 tyX3 tyX3_ok nmX3 hown hK.1 hP hD hS 3 rfl rfl 6 (by decide) f41 (fun _ h9 => h9) rfl (by decide +kernel) rfl rfl (Nat.le_of_ble_eq_true rfl) dX0_mixInto_102 (fun H locs hP hD hS => ?_)
          obtain ⟨gH10, egH10, hsp⟩ := z_lt hsp
          have hP : va_P dD vwCl ([zB q gB, zA cI (q 2) 12 mk, zA cI (q 3) 12 mx, zL aH gH10]) H := by rw [egH10]; exact hP
          have hD : va_D A ([zB q gB, zA cI (q 2) 12 mk, zA cI (q 3) 12 mx, zL aH gH10]) := by rw [egH10]; exact hD
          obtain rfl := Option.some.inj hsp
          exact hret _ _ ls 105 dX0_mixInto_105 hP hD hS
      · have hsp := z_f c3 hsp
        refine lv_aload_n hx hb dX0_mixInto_21 rfl (lv_at hl 0 rfl) ?_
        refine va_get (D := dD) (ci := 0) (v := .ref (q 2)) (C := RX0) (T := TX0) (N := 3) hx hb hts iX0 hown hK.1 hP 0 rfl rfl 0 (by decide) f9 (fun _ h9 => h9) rfl dX0_mixInto_22 ?_
        refine lv_iload hx hb dX0_mixInto_25 (lv_at hl 4 rfl) ?_
        obtain ⟨h11, hsp⟩ := z_in hsp
        refine va_iald hx hb hK.1 hP 1 0 rfl rfl h11 dX0_mixInto_27 ?_
        refine lv_if_eq (tgt := 74) hx hb dX0_mixInto_28 (by decide) (fun c12 => ?_) (fun c12 => ?_)
        · have hsp := z_t c12 hsp
          obtain ⟨x13, ex13, hsp⟩ := z_lt hsp
          refine lv_iinc (v := x13) (lv' := [(4, .int x13), (0, .ref (q 1)), (1, .ref aH), (2, .int lo2), (3, .int lo3)]) hx hb dX0_mixInto_74 hl (k := 4) rfl (by rw [ex13]; rfl) (by decide) rfl (fun ls hl => ?_)
          refine lv_goto (tgt := 16) hx hb dX0_mixInto_77 (by decide) ?_
          exact ih16 _ _ ls gH_ (lo2) (lo3) (x13) hP hD hS (lv_sub hl [1, 2, 3, 4, 0] rfl) hsp
        · have hsp := z_f c12 hsp
          refine lv_iload_n hx hb dX0_mixInto_31 rfl (lv_at hl 2 rfl) ?_
          refine lv_iload_n hx hb dX0_mixInto_32 rfl (lv_at hl 3 rfl) ?_
          obtain ⟨v14, hc15, hsp⟩ := z_b1 hsp
          refine z_callSi ⟨hx, hb, hml, hown, hts⟩ hK (c_X0_has l dD cI cA (lo2) (lo3) v14 hc15) (va_cwS 2 hts gX0_mixInto_X0_has rfl rfl rfl (by decide +kernel) ⟨Nat.le_of_ble_eq_true rfl, Nat.le_of_ble_eq_true rfl⟩) (zJ.of (wc := []) (wc1 := []) (wr := [zB q gB, zA cI (q 2) 12 mk, zA cI (q 3) 12 mx, zL aH gH_]) (w2 := [zB q gB, zA cI (q 2) 12 mk, zA cI (q 3) 12 mx, zL aH gH_]) hP hD hS hA [] [0, 1, 2, 3] [0, 1, 2, 3] rfl rfl rfl rfl rfl rfl rfl) hS rfl hl.1 rfl (Nat.le_of_ble_eq_true rfl) dX0_mixInto_33 ⟨Nat.zero_le _, Nat.zero_le _⟩ (fun H locs hP hD hS => ?_)
          refine lv_if_eq (tgt := 71) hx hb dX0_mixInto_36 (by decide) (fun c16 => ?_) (fun c16 => ?_)
          · have hsp := z_t c16 hsp
            obtain ⟨x17, ex17, hsp⟩ := z_lt hsp
            refine lv_iinc (v := x17) (lv' := [(3, .int x17), (0, .ref (q 1)), (1, .ref aH), (2, .int lo2), (4, .int lo4)]) hx hb dX0_mixInto_71 hl (k := 3) rfl (by rw [ex17]; rfl) (by decide) rfl (fun ls hl => ?_)
            obtain ⟨x18, ex18, hsp⟩ := z_lt hsp
            refine lv_iinc (v := x18) (lv' := [(4, .int x18), (3, .int x17), (0, .ref (q 1)), (1, .ref aH), (2, .int lo2)]) hx hb dX0_mixInto_74 hl (k := 4) rfl (by rw [ex18]; rfl) (by decide) rfl (fun ls hl => ?_)
            refine lv_goto (tgt := 16) hx hb dX0_mixInto_77 (by decide) ?_
            exact ih16 _ _ ls gH_ (lo2) (x17) (x18) hP hD hS (lv_sub hl [2, 3, 4, 1, 0] rfl) hsp
          · have hsp := z_f c16 hsp
            refine lv_aload_n hx hb dX0_mixInto_39 rfl (lv_at hl 1 rfl) ?_
            refine lv_dup hx hb dX0_mixInto_40 rfl ?_
            refine va_getN (D := dD) (ci := 3) (v := .int (gH_ 5)) (C := RX3) (T := TX3) (N := 9) hx hb hts iX3 hown hK.1 hP 3 rfl rfl 5 (by decide) f36 (fun _ h9 => h9) rfl dX0_mixInto_41 ?_
            refine lv_aload_n hx hb dX0_mixInto_44 rfl (lv_at hl 0 rfl) ?_
            refine va_get (D := dD) (ci := 0) (v := .ref (q 2)) (C := RX0) (T := TX0) (N := 3) hx hb hts iX0 hown hK.1 hP 0 rfl rfl 0 (by decide) f9 (fun _ h9 => h9) rfl dX0_mixInto_45 ?_
            refine lv_iload hx hb dX0_mixInto_48 (lv_at hl 4 rfl) ?_
            obtain ⟨h19, hsp⟩ := z_in hsp
            refine va_iald hx hb hK.1 hP 1 0 rfl rfl h19 dX0_mixInto_50 ?_
            refine lv_ixor hx hb dX0_mixInto_51 ?_
            refine va_putN (D := dD) (ci := 3) (v := .int ((gH_ 5) ^^^ (mk (lo4).toNatClampNeg))) (ty := .int) (C := RX3) (T := TX3) (N := 9) hx hb hts iX3 tyX3 tyX3_ok nmX3 hown hK.1 hP hD hS 3 rfl rfl 5 (by decide) f36 (fun _ h9 => h9) rfl (by decide +kernel) rfl rfl (Nat.le_of_ble_eq_true rfl) dX0_mixInto_52 (fun H locs hP hD hS => ?_)
            obtain ⟨gH20, egH20, hsp⟩ := z_lt hsp
            have hP : va_P dD vwCl ([zB q gB, zA cI (q 2) 12 mk, zA cI (q 3) 12 mx, zL aH gH20]) H := by rw [egH20]; exact hP
            have hD : va_D A ([zB q gB, zA cI (q 2) 12 mk, zA cI (q 3) 12 mx, zL aH gH20]) := by rw [egH20]; exact hD
            refine lv_aload_n hx hb dX0_mixInto_55 rfl (lv_at hl 1 rfl) ?_
            refine lv_dup hx hb dX0_mixInto_56 rfl ?_
            refine va_getN (D := dD) (ci := 3) (v := .int (gH20 6)) (C := RX3) (T := TX3) (N := 9) hx hb hts iX3 hown hK.1 hP 3 rfl rfl 6 (by decide) f41 (fun _ h9 => h9) rfl dX0_mixInto_57 ?_
            refine lv_aload_n hx hb dX0_mixInto_60 rfl (lv_at hl 0 rfl) ?_
            refine va_get (D := dD) (ci := 0) (v := .ref (q 3)) (C := RX0) (T := TX0) (N := 3) hx hb hts iX0 hown hK.1 hP 0 rfl rfl 1 (by decide) f15 (fun _ h9 => h9) rfl dX0_mixInto_61 ?_
            refine lv_iload hx hb dX0_mixInto_64 (lv_at hl 4 rfl) ?_
            obtain ⟨h21, hsp⟩ := z_in hsp
            refine va_iald hx hb hK.1 hP 2 0 rfl rfl h21 dX0_mixInto_66 ?_
            refine lv_ixor hx hb dX0_mixInto_67 ?_
            refine va_putN (D := dD) (ci := 3) (v := .int ((gH20 6) ^^^ (mx (lo4).toNatClampNeg))) (ty := .int) (C := RX3) (T := TX3) (N := 9) hx hb hts iX3 tyX3 tyX3_ok nmX3 hown hK.1 hP hD hS 3 rfl rfl 6 (by decide) f41 (fun _ h9 => h9) rfl (by decide +kernel) rfl rfl (Nat.le_of_ble_eq_true rfl) dX0_mixInto_68 (fun H locs hP hD hS => ?_)
            obtain ⟨gH22, egH22, hsp⟩ := z_lt hsp
            have hP : va_P dD vwCl ([zB q gB, zA cI (q 2) 12 mk, zA cI (q 3) 12 mx, zL aH gH22]) H := by rw [egH22]; exact hP
            have hD : va_D A ([zB q gB, zA cI (q 2) 12 mk, zA cI (q 3) 12 mx, zL aH gH22]) := by rw [egH22]; exact hD
            obtain ⟨x23, ex23, hsp⟩ := z_lt hsp
            refine lv_iinc (v := x23) (lv' := [(3, .int x23), (0, .ref (q 1)), (1, .ref aH), (2, .int lo2), (4, .int lo4)]) hx hb dX0_mixInto_71 hl (k := 3) rfl (by rw [ex23]; rfl) (by decide) rfl (fun ls hl => ?_)
            obtain ⟨x24, ex24, hsp⟩ := z_lt hsp
            refine lv_iinc (v := x24) (lv' := [(4, .int x24), (3, .int x23), (0, .ref (q 1)), (1, .ref aH), (2, .int lo2)]) hx hb dX0_mixInto_74 hl (k := 4) rfl (by rw [ex24]; rfl) (by decide) rfl (fun ls hl => ?_)
            refine lv_goto (tgt := 16) hx hb dX0_mixInto_77 (by decide) ?_
            exact ih16 _ _ ls gH22 (lo2) (x23) (x24) hP hD hS (lv_sub hl [2, 3, 4, 1, 0] rfl) hsp
  unfold s_X0_mixInto at hsp
  refine lv_aload_n hx hb dX0_mixInto_0 rfl (lv_at hl 1 rfl) ?_
  refine lv_iconst (v := 0) hx hb dX0_mixInto_1 (by decide) ?_
  refine va_putN (D := dD) (ci := 3) (v := .int 0) (ty := .int) (C := RX3) (T := TX3) (N := 9) hx hb hts iX3 tyX3 tyX3_ok nmX3 hown hK.1 hP hD hS 3 rfl rfl 5 (by decide) f36 (fun _ h9 => h9) rfl (by decide +kernel) rfl rfl (Nat.le_of_ble_eq_true rfl) dX0_mixInto_2 (fun H locs hP hD hS => ?_)
  obtain ⟨gH1, egH1, hsp⟩ := z_lt hsp
  have hP : va_P dD vwCl ([zB q gB, zA cI (q 2) 12 mk, zA cI (q 3) 12 mx, zL aH gH1]) H := by rw [egH1]; exact hP
  have hD : va_D A ([zB q gB, zA cI (q 2) 12 mk, zA cI (q 3) 12 mx, zL aH gH1]) := by rw [egH1]; exact hD
  refine lv_aload_n hx hb dX0_mixInto_5 rfl (lv_at hl 1 rfl) ?_
  refine lv_iconst (v := 0) hx hb dX0_mixInto_6 (by decide) ?_
  refine va_putN (D := dD) (ci := 3) (v := .int 0) (ty := .int) (C := RX3) (T := TX3) (N := 9) hx hb hts iX3 tyX3 tyX3_ok nmX3 hown hK.1 hP hD hS 3 rfl rfl 6 (by decide) f41 (fun _ h9 => h9) rfl (by decide +kernel) rfl rfl (Nat.le_of_ble_eq_true rfl) dX0_mixInto_7 (fun H locs hP hD hS => ?_)
  obtain ⟨gH2, egH2, hsp⟩ := z_lt hsp
  have hP : va_P dD vwCl ([zB q gB, zA cI (q 2) 12 mk, zA cI (q 3) 12 mx, zL aH gH2]) H := by rw [egH2]; exact hP
  have hD : va_D A ([zB q gB, zA cI (q 2) 12 mk, zA cI (q 3) 12 mx, zL aH gH2]) := by rw [egH2]; exact hD
  refine lv_iconst (v := 0) hx hb dX0_mixInto_10 (by decide) ?_
  refine lv_istore_n (lv' := [(3, .int 0), (0, .ref (q 1)), (1, .ref aH), (2, .int p1)]) hx hb dX0_mixInto_11 rfl hl (by decide) rfl (fun ls hl => ?_)
  refine lv_bipush (v := 11) hx hb dX0_mixInto_12 (by decide) ?_
  refine lv_istore (lv' := [(4, .int 11), (3, .int 0), (0, .ref (q 1)), (1, .ref aH), (2, .int p1)]) hx hb dX0_mixInto_14 hl (by decide) rfl (fun ls hl => ?_)
  exact K_16 13 _ _ ls gH2 (p1) (0) (11) hP hD hS (lv_sub hl [2, 3, 4, 1, 0] rfl) hsp
def s_X0_sumOfPieces_b4 (gB : zF) (mx : zF) : Nat → (Int32) → (Int32) → Option Int32
  | 0, _, _ => none
  | n4 + 1, lo1, lo2 => (if 12 ≤ lo2 then some (lo1) else if lo2 < 0 ∨ 12 ≤ (lo2).toNatClampNeg then none else zl ((lo1 + ((mx (lo2).toNatClampNeg) * (lo2 + 1)))) fun (x3 : Int32) => zl (lo2 + 1) fun (x4 : Int32) => (s_X0_sumOfPieces_b4 gB mx n4 (x3) (x4)))
def s_X0_sumOfPieces (gB : zF) (mx : zF) : Option Int32 := (s_X0_sumOfPieces_b4 gB mx 13 (0) (0))
abbrev rm_X0_sumOfPieces : Room := { frames := 0, cells := 0, slots := 0, locals := 0 }
set_option maxHeartbeats 4000000 in
set_option maxRecDepth 100000 in
theorem c_X0_sumOfPieces (l : Launch) (dD : va_G) (cI cA : ClassId) (q : Nat → Nat) (gB : zF) (mx : zF) (rv : Int32) (hsp : s_X0_sumOfPieces gB mx = some rv) : zMi l yX0_sumOfPieces wsX0_sumOfPieces rm_X0_sumOfPieces dD cI cA [.ref (q 1)] ([zB q gB, zA cI (q 3) 12 mx]) ([zB q gB, zA cI (q 3) 12 mx]) rv := by
  refine zMi_of (cc := cX0_sumOfPieces) (maxL := 3) (by decide) rfl (Nat.le_of_ble_eq_true rfl) ?_
  intro p e s m args below meth c A Q ls hx hb hml hown hts hK hA hP hD hl hret
  have hown : s.vm.findClass RX0 = some m.cls := hown
  have iX0 : ∀ w ∈ wsX00, w ∈ wsX0_sumOfPieces := by decide +kernel
  have f15 := hts (.fieldLink RX0 15 "MeshField$Basis" "mixed" "[I") (by decide +kernel)
  have hS : va_S A s.heap s.heap [] := va_S.rf
  have hl : lv_has ls 3 [(0, .ref (q 1))] := hl
  have K_4 : ∀ (nf : Nat) (H : Heap) (locs : List Loc) (ls : Array Slot) (lo1 : Int32) (lo2 : Int32), va_P dD vwCl ([zB q gB, zA cI (q 3) 12 mx]) H → va_D A ([zB q gB, zA cI (q 3) 12 mx]) → va_S A s.heap H locs → lv_has ls 3 [(0, .ref (q 1)), (1, .int lo1), (2, .int lo2)] → s_X0_sumOfPieces_b4 gB mx nf lo1 lo2 = some rv → W p l e rm_X0_sumOfPieces s m args below meth c H locs 0 0 Q (F0 m 4 ls []) := by
    intro nf
    induction nf with
    | zero =>
      intro H locs ls lo1 lo2 hP hD hS hl hsp
      exact absurd (show (none : Option Int32) = some rv from hsp) (fun h => by cases h)
    | succ n4 ih4 =>
      intro H locs ls lo1 lo2 hP hD hS hl hsp
      rw [s_X0_sumOfPieces_b4] at hsp
      refine lv_iload_n hx hb dX0_sumOfPieces_4 rfl (lv_at hl 2 rfl) ?_
      refine lv_bipush (v := 12) hx hb dX0_sumOfPieces_5 (by decide) ?_
      refine lv_icmp_ge (tgt := 29) hx hb dX0_sumOfPieces_7 (by decide) (fun c1 => ?_) (fun c1 => ?_)
      · have hsp := z_t c1 hsp
        refine lv_iload_n hx hb dX0_sumOfPieces_29 rfl (lv_at hl 1 rfl) ?_
        obtain rfl := Option.some.inj hsp
        exact hret _ _ ls 30 dX0_sumOfPieces_30 rfl hP hD hS
      · have hsp := z_f c1 hsp
        refine lv_iload_n hx hb dX0_sumOfPieces_10 rfl (lv_at hl 1 rfl) ?_
        refine lv_aload_n hx hb dX0_sumOfPieces_11 rfl (lv_at hl 0 rfl) ?_
        refine va_get (D := dD) (ci := 0) (v := .ref (q 3)) (C := RX0) (T := TX0) (N := 3) hx hb hts iX0 hown hK.1 hP 0 rfl rfl 1 (by decide) f15 (fun _ h9 => h9) rfl dX0_sumOfPieces_12 ?_
        refine lv_iload_n hx hb dX0_sumOfPieces_15 rfl (lv_at hl 2 rfl) ?_
        obtain ⟨h2, hsp⟩ := z_in hsp
        refine va_iald hx hb hK.1 hP 1 0 rfl rfl h2 dX0_sumOfPieces_16 ?_
        refine lv_iload_n hx hb dX0_sumOfPieces_17 rfl (lv_at hl 2 rfl) ?_
        refine lv_iconst (v := 1) hx hb dX0_sumOfPieces_18 (by decide) ?_
        refine lv_iadd hx hb dX0_sumOfPieces_19 ?_
        refine lv_imul hx hb dX0_sumOfPieces_20 ?_
        refine lv_iadd hx hb dX0_sumOfPieces_21 ?_
        obtain ⟨x3, ex3, hsp⟩ := z_lt hsp
        refine z_top ex3 ?_
        refine lv_istore_n (lv' := [(1, .int x3), (0, .ref (q 1)), (2, .int lo2)]) hx hb dX0_sumOfPieces_22 rfl hl (by decide) rfl (fun ls hl => ?_)
        obtain ⟨x4, ex4, hsp⟩ := z_lt hsp
        refine lv_iinc (v := x4) (lv' := [(2, .int x4), (1, .int x3), (0, .ref (q 1))]) hx hb dX0_sumOfPieces_23 hl (k := 2) rfl (by rw [ex4]; rfl) (by decide) rfl (fun ls hl => ?_)
        refine lv_goto (tgt := 4) hx hb dX0_sumOfPieces_26 (by decide) ?_
        exact ih4 _ _ ls (x3) (x4) hP hD hS (lv_sub hl [2, 1, 0] rfl) hsp
  unfold s_X0_sumOfPieces at hsp
  refine lv_iconst (v := 0) hx hb dX0_sumOfPieces_0 (by decide) ?_
  refine lv_istore_n (lv' := [(1, .int 0), (0, .ref (q 1))]) hx hb dX0_sumOfPieces_1 rfl hl (by decide) rfl (fun ls hl => ?_)
  refine lv_iconst (v := 0) hx hb dX0_sumOfPieces_2 (by decide) ?_
  refine lv_istore_n (lv' := [(2, .int 0), (1, .int 0), (0, .ref (q 1))]) hx hb dX0_sumOfPieces_3 rfl hl (by decide) rfl (fun ls hl => ?_)
  exact K_4 13 _ _ ls (0) (0) hP hD hS (lv_sub hl [2, 1, 0] rfl) hsp
