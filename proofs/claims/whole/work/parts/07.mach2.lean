def s_X4_takeTell_b85 (gB : zF) (gR : zF) (gH : zF) (gM_ : zF) (gI_ : zF) (gD_ : zF) (lo2 : Int32) (t0 : Int32) : Option ((zF) × (zF) × (zF)) := (if t0 = 0 then some (gM_, gI_, gD_) else (if (gM_ 10) = (-1) then zb2 (s_X1_below gD_ ((gR 3))) fun (v8 : Int32) (gD9 : zF) => zl (va_up gM_ 10 (((lo2 + 1) + v8))) fun (gM11 : zF) => some (gM11, gI_, gD9) else some (gM_, gI_, gD_)))
def s_X4_takeTell_b80 (gB : zF) (gR : zF) (gH : zF) (gM_ : zF) (gI_ : zF) (gD_ : zF) (lo2 : Int32) : Option ((zF) × (zF) × (zF)) := (s_X4_takeTell_b85 gB gR gH gM_ gI_ gD_ (lo2) (1))
def s_X4_takeTell_b84 (gB : zF) (gR : zF) (gH : zF) (gM_ : zF) (gI_ : zF) (gD_ : zF) (lo2 : Int32) : Option ((zF) × (zF) × (zF)) := (s_X4_takeTell_b85 gB gR gH gM_ gI_ gD_ (lo2) (0))
def s_X4_takeTell_b39 (gB : zF) (gR : zF) (gH : zF) (gM_ : zF) (gI_ : zF) (gD_ : zF) (lo2 : Int32) : Option ((zF) × (zF) × (zF)) := zb2 (s_X4_stir gM_ gI_ gR gD_ (lo2)) fun (gI2 : zF) (gD3 : zF) => (if (gH 1) < (gM_ 6) then (s_X4_takeTell_b80 gB gR gH gM_ gI2 gD3 (lo2)) else (if (gH 1) = (gM_ 6) then (if (gB 2) ≤ (gH 2) then (s_X4_takeTell_b84 gB gR gH gM_ gI2 gD3 (lo2)) else (s_X4_takeTell_b80 gB gR gH gM_ gI2 gD3 (lo2))) else (s_X4_takeTell_b84 gB gR gH gM_ gI2 gD3 (lo2))))
def s_X4_takeTell (gM : zF) (gB : zF) (gI : zF) (gR : zF) (gD : zF) (gH : zF) (p1 : Int32) : Option ((zF) × (zF) × (zF)) := (if (gH 1) = (gM 6) then (if (gH 2) = (gB 2) then zl (va_up gI 3 (((gI 3) + 1))) fun (gI15 : zF) => some (gM, gI15, gD) else (s_X4_takeTell_b39 gB gR gH gM gI gD (p1))) else (s_X4_takeTell_b39 gB gR gH gM gI gD (p1)))
abbrev rm_X4_takeTell : Room := { frames := 3, cells := 0, slots := 0, locals := 65 }
set_option maxHeartbeats 4000000 in
set_option maxRecDepth 100000 in
theorem c_X4_takeTell (l : Launch) (dD : va_G) (cI cA : ClassId) (q : Nat → Nat) (aR : Nat) (aD : Nat) (ca : Option Nat) (aH : Nat) (gM : zF) (gB : zF) (gI : zF) (gR : zF) (gD : zF) (gH : zF) (p1 : Int32) (r_gM : zF) (r_gI : zF) (r_gD : zF) (hsp : s_X4_takeTell gM gB gI gR gD gH p1 = some (r_gM, r_gI, r_gD)) : zMv l yX4_takeTell wsX4_takeTell rm_X4_takeTell dD cI cA [.ref (q 0), .ref aH, .int p1] ([zM q aR aD ca gM, zB q gB, zI q gI, zR aR gR, zD aD gD, zL aH gH]) ([zM q aR aD ca r_gM, zB q gB, zI q r_gI, zR aR gR, zD aD r_gD, zL aH gH]) := by
  refine zMv_of (cc := cX4_takeTell) (maxL := 4) (by decide) rfl (Nat.le_of_ble_eq_true rfl) ?_
  intro p e s m args below meth c A Q ls hx hb hml hown hts hK hA hP hD hl hret
  have hown : s.vm.findClass RX4 = some m.cls := hown
  have iX3 : ∀ w ∈ wsX30, w ∈ wsX4_takeTell := by decide +kernel
  have iX4 : ∀ w ∈ wsX40, w ∈ wsX4_takeTell := by decide +kernel
  have iX5 : ∀ w ∈ wsX50, w ∈ wsX4_takeTell := by decide +kernel
  have iX0 : ∀ w ∈ wsX00, w ∈ wsX4_takeTell := by decide +kernel
  have iX2 : ∀ w ∈ wsX20, w ∈ wsX4_takeTell := by decide +kernel
  have f128 : (Cond.fieldLinkNest RX4 128 "MeshField$Letter" "number" "I" "MeshField").before args s = true := hK.nw (by decide +kernel)
  have f59 := hts (.fieldLink RX4 59 "MeshField$Machine" "number" "I") (by decide +kernel)
  have f32 := hts (.fieldLink RX4 32 "MeshField$Machine" "dataAt" "I") (by decide +kernel)
  have f40 := hts (.fieldLink RX4 40 "MeshField$Machine" "draws" "LMeshField$Draws;") (by decide +kernel)
  have f36 := hts (.fieldLink RX4 36 "MeshField$Machine" "rules" "LMeshField$Rules;") (by decide +kernel)
  have f148 : (Cond.fieldLinkNest RX4 148 "MeshField$Rules" "wait" "I" "MeshField").before args s = true := hK.nw (by decide +kernel)
  have f129 : (Cond.fieldLinkNest RX4 129 "MeshField$Letter" "rank" "I" "MeshField").before args s = true := hK.nw (by decide +kernel)
  have f12 := hts (.fieldLink RX4 12 "MeshField$Machine" "basis" "LMeshField$Basis;") (by decide +kernel)
  have f68 : (Cond.fieldLinkNest RX4 68 "MeshField$Basis" "rank" "I" "MeshField").before args s = true := hK.nw (by decide +kernel)
  have f21 := hts (.fieldLink RX4 21 "MeshField$Machine" "interval" "LMeshField$Interval;") (by decide +kernel)
  have f116 : (Cond.fieldLinkNest RX4 116 "MeshField$Interval" "heard" "I" "MeshField").before args s = true := hK.nw (by decide +kernel)
  have hS : va_S A s.heap s.heap [] := va_S.rf
  have hl : lv_has ls 4 [(0, .ref (q 0)), (1, .ref aH), (2, .int p1)] := hl
  have K_85 : ∀ (H : Heap) (locs : List Loc) (ls : Array Slot) (gM_ : zF) (gI_ : zF) (gD_ : zF) (lo2 : Int32) (t0 : Int32), va_P dD vwCl ([zM q aR aD ca gM_, zB q gB, zI q gI_, zR aR gR, zD aD gD_, zL aH gH]) H → va_D A ([zM q aR aD ca gM_, zB q gB, zI q gI_, zR aR gR, zD aD gD_, zL aH gH]) → va_S A s.heap H locs → lv_has ls 4 [(0, .ref (q 0)), (2, .int lo2)] → s_X4_takeTell_b85 gB gR gH gM_ gI_ gD_ lo2 t0 = some (r_gM, r_gI, r_gD) → W p l e rm_X4_takeTell s m args below meth c H locs 0 0 Q (F0 m 85 ls [.int t0]) := by
    intro H locs ls gM_ gI_ gD_ lo2 t0 hP hD hS hl hsp
    unfold s_X4_takeTell_b85 at hsp
    refine lv_istore_n (lv' := [(3, .int t0), (0, .ref (q 0)), (2, .int lo2)]) hx hb dX4_takeTell_85 rfl hl (by decide) rfl (fun ls hl => ?_)
    refine lv_iload_n hx hb dX4_takeTell_86 rfl (lv_at hl 0 rfl) ?_
    refine lv_if_eq (tgt := 120) hx hb dX4_takeTell_87 (by decide) (fun c6 => ?_) (fun c6 => ?_)
    · have hsp := z_t c6 hsp
      obtain ⟨rfl, rfl, rfl⟩ := z_i3 hsp
      exact hret _ _ ls 120 dX4_takeTell_120 hP hD hS
    · have hsp := z_f c6 hsp
      refine lv_aload_n hx hb dX4_takeTell_90 rfl (lv_at hl 1 rfl) ?_
      refine va_get (D := dD) (ci := 4) (v := .int (gM_ 10)) (C := RX4) (T := TX4) (N := 18) hx hb hts iX4 hown hK.1 hP 0 rfl rfl 10 (by decide) f32 (fun _ h9 => h9) rfl dX4_takeTell_91 ?_
      refine lv_iconst (v := (-1)) hx hb dX4_takeTell_94 (by decide) ?_
      refine lv_icmp_ne (tgt := 120) hx hb dX4_takeTell_95 (by decide) (fun c7 => ?_) (fun c7 => ?_)
      · have hsp := z_f c7 hsp
        obtain ⟨rfl, rfl, rfl⟩ := z_i3 hsp
        exact hret _ _ ls 120 dX4_takeTell_120 hP hD hS
      · have hsp := z_t c7 hsp
        refine lv_aload_n hx hb dX4_takeTell_98 rfl (lv_at hl 1 rfl) ?_
        refine lv_iload_n hx hb dX4_takeTell_99 rfl (lv_at hl 2 rfl) ?_
        refine lv_iconst (v := 1) hx hb dX4_takeTell_100 (by decide) ?_
        refine lv_iadd hx hb dX4_takeTell_101 ?_
        refine lv_aload_n hx hb dX4_takeTell_102 rfl (lv_at hl 1 rfl) ?_
        refine va_get (D := dD) (ci := 4) (v := .ref aD) (C := RX4) (T := TX4) (N := 18) hx hb hts iX4 hown hK.1 hP 0 rfl rfl 1 (by decide) f40 (fun _ h9 => h9) rfl dX4_takeTell_103 ?_
        refine lv_aload_n hx hb dX4_takeTell_106 rfl (lv_at hl 1 rfl) ?_
        refine va_get (D := dD) (ci := 4) (v := .ref aR) (C := RX4) (T := TX4) (N := 18) hx hb hts iX4 hown hK.1 hP 0 rfl rfl 0 (by decide) f36 (fun _ h9 => h9) rfl dX4_takeTell_107 ?_
        refine va_getN (D := dD) (ci := 5) (v := .int (gR 3)) (C := RX5) (T := TX5) (N := 4) hx hb hts iX5 hown hK.1 hP 3 rfl rfl 3 (by decide) f148 (fun _ h9 => h9) rfl dX4_takeTell_110 ?_
        obtain ⟨v8, gD9, hc10, hsp⟩ := z_b2 hsp
        refine z_callVi ⟨hx, hb, hml, hown, hts⟩ hK (c_X1_below l dD cI cA aD gD_ ((gR 3)) v8 gD9 hc10) (cwV 1 hts gX4_takeTell_X1_below rfl rfl rfl (by decide +kernel) ⟨Nat.le_of_ble_eq_true rfl, Nat.le_of_ble_eq_true rfl⟩) (zJ.of (wc := [zD aD gD_]) (wc1 := [zD aD gD9]) (wr := [zM q aR aD ca gM_, zB q gB, zI q gI_, zR aR gR, zL aH gH]) (w2 := [zM q aR aD ca gM_, zB q gB, zI q gI_, zR aR gR, zD aD gD9, zL aH gH]) hP hD hS hA [4] [0, 1, 2, 3, 5] [0, 1, 2, 3, 5, 4] rfl rfl rfl rfl rfl rfl rfl) hS 0 1 rfl rfl rfl rfl hl.1 rfl (Nat.le_of_ble_eq_true rfl) dX4_takeTell_113 ⟨Nat.zero_le _, Nat.zero_le _⟩ (fun H locs hP hD hS => ?_)
        refine lv_iadd hx hb dX4_takeTell_116 ?_
        refine va_put (D := dD) (ci := 4) (v := .int ((lo2 + 1) + v8)) (ty := .int) (C := RX4) (T := TX4) (N := 18) hx hb hts iX4 tyX4 tyX4_ok nmX4 hown hK.1 hP hD hS 0 rfl rfl 10 (by decide) f32 (fun _ h9 => h9) rfl (by decide +kernel) rfl rfl (Nat.le_of_ble_eq_true rfl) dX4_takeTell_117 (fun H locs hP hD hS => ?_)
        obtain ⟨gM11, egM11, hsp⟩ := z_lt hsp
        have hP : va_P dD vwCl ([zM q aR aD ca gM11, zB q gB, zI q gI_, zR aR gR, zD aD gD9, zL aH gH]) H := by rw [egM11]; exact hP
        have hD : va_D A ([zM q aR aD ca gM11, zB q gB, zI q gI_, zR aR gR, zD aD gD9, zL aH gH]) := by rw [egM11]; exact hD
        obtain ⟨rfl, rfl, rfl⟩ := z_i3 hsp
        exact hret _ _ ls 120 dX4_takeTell_120 hP hD hS
  have K_80 : ∀ (H : Heap) (locs : List Loc) (ls : Array Slot) (gM_ : zF) (gI_ : zF) (gD_ : zF) (lo2 : Int32), va_P dD vwCl ([zM q aR aD ca gM_, zB q gB, zI q gI_, zR aR gR, zD aD gD_, zL aH gH]) H → va_D A ([zM q aR aD ca gM_, zB q gB, zI q gI_, zR aR gR, zD aD gD_, zL aH gH]) → va_S A s.heap H locs → lv_has ls 4 [(0, .ref (q 0)), (2, .int lo2)] → s_X4_takeTell_b80 gB gR gH gM_ gI_ gD_ lo2 = some (r_gM, r_gI, r_gD) → W p l e rm_X4_takeTell s m args below meth c H locs 0 0 Q (F0 m 80 ls []) := by
    intro H locs ls gM_ gI_ gD_ lo2 hP hD hS hl hsp
    unfold s_X4_takeTell_b80 at hsp
    refine lv_iconst (v := 1) hx hb dX4_takeTell_80 (by decide) ?_
    refine lv_goto (tgt := 85) hx hb dX4_takeTell_81 (by decide) ?_
    exact K_85 _ _ ls gM_ gI_ gD_ (lo2) (1) hP hD hS (lv_sub hl [0, 1] rfl) hsp
  have K_84 : ∀ (H : Heap) (locs : List Loc) (ls : Array Slot) (gM_ : zF) (gI_ : zF) (gD_ : zF) (lo2 : Int32), va_P dD vwCl ([zM q aR aD ca gM_, zB q gB, zI q gI_, zR aR gR, zD aD gD_, zL aH gH]) H → va_D A ([zM q aR aD ca gM_, zB q gB, zI q gI_, zR aR gR, zD aD gD_, zL aH gH]) → va_S A s.heap H locs → lv_has ls 4 [(0, .ref (q 0)), (2, .int lo2)] → s_X4_takeTell_b84 gB gR gH gM_ gI_ gD_ lo2 = some (r_gM, r_gI, r_gD) → W p l e rm_X4_takeTell s m args below meth c H locs 0 0 Q (F0 m 84 ls []) := by
    intro H locs ls gM_ gI_ gD_ lo2 hP hD hS hl hsp
    unfold s_X4_takeTell_b84 at hsp
    refine lv_iconst (v := 0) hx hb dX4_takeTell_84 (by decide) ?_
    exact K_85 _ _ ls gM_ gI_ gD_ (lo2) (0) hP hD hS (lv_sub hl [0, 1] rfl) hsp
  have K_39 : ∀ (H : Heap) (locs : List Loc) (ls : Array Slot) (gM_ : zF) (gI_ : zF) (gD_ : zF) (lo2 : Int32), va_P dD vwCl ([zM q aR aD ca gM_, zB q gB, zI q gI_, zR aR gR, zD aD gD_, zL aH gH]) H → va_D A ([zM q aR aD ca gM_, zB q gB, zI q gI_, zR aR gR, zD aD gD_, zL aH gH]) → va_S A s.heap H locs → lv_has ls 4 [(0, .ref (q 0)), (1, .ref aH), (2, .int lo2)] → s_X4_takeTell_b39 gB gR gH gM_ gI_ gD_ lo2 = some (r_gM, r_gI, r_gD) → W p l e rm_X4_takeTell s m args below meth c H locs 0 0 Q (F0 m 39 ls []) := by
    intro H locs ls gM_ gI_ gD_ lo2 hP hD hS hl hsp
    unfold s_X4_takeTell_b39 at hsp
    refine lv_aload_n hx hb dX4_takeTell_39 rfl (lv_at hl 0 rfl) ?_
    refine lv_iload_n hx hb dX4_takeTell_40 rfl (lv_at hl 2 rfl) ?_
    obtain ⟨gI2, gD3, hc4, hsp⟩ := z_b2 hsp
    refine z_callVv ⟨hx, hb, hml, hown, hts⟩ hK (c_X4_stir l dD cI cA q aR aD ca gM_ gI_ gR gD_ (lo2) gI2 gD3 hc4) (cwV 1 hts gX4_takeTell_X4_stir rfl rfl rfl (by decide +kernel) ⟨Nat.le_of_ble_eq_true rfl, Nat.le_of_ble_eq_true rfl⟩) (zJ.of (wc := [zM q aR aD ca gM_, zI q gI_, zR aR gR, zD aD gD_]) (wc1 := [zM q aR aD ca gM_, zI q gI2, zR aR gR, zD aD gD3]) (wr := [zB q gB, zL aH gH]) (w2 := [zM q aR aD ca gM_, zB q gB, zI q gI2, zR aR gR, zD aD gD3, zL aH gH]) hP hD hS hA [0, 2, 3, 4] [1, 5] [2, 0, 3, 4, 5, 1] rfl rfl rfl rfl rfl rfl rfl) hS 0 4 rfl rfl rfl rfl hl.1 rfl (Nat.le_of_ble_eq_true rfl) dX4_takeTell_41 ⟨Nat.zero_le _, Nat.zero_le _⟩ (fun H locs hP hD hS => ?_)
    refine lv_aload_n hx hb dX4_takeTell_44 rfl (lv_at hl 1 rfl) ?_
    refine va_getN (D := dD) (ci := 3) (v := .int (gH 1)) (C := RX3) (T := TX3) (N := 9) hx hb hts iX3 hown hK.1 hP 5 rfl rfl 1 (by decide) f128 (fun _ h9 => h9) rfl dX4_takeTell_45 ?_
    refine lv_aload_n hx hb dX4_takeTell_48 rfl (lv_at hl 0 rfl) ?_
    refine va_get (D := dD) (ci := 4) (v := .int (gM_ 6)) (C := RX4) (T := TX4) (N := 18) hx hb hts iX4 hown hK.1 hP 0 rfl rfl 6 (by decide) f59 (fun _ h9 => h9) rfl dX4_takeTell_49 ?_
    refine lv_icmp_lt (tgt := 80) hx hb dX4_takeTell_52 (by decide) (fun c5 => ?_) (fun c5 => ?_)
    · have hsp := z_t c5 hsp
      exact K_80 _ _ ls gM_ gI2 gD3 (lo2) hP hD hS (lv_sub hl [0, 2] rfl) hsp
    · have hsp := z_f c5 hsp
      refine lv_aload_n hx hb dX4_takeTell_55 rfl (lv_at hl 1 rfl) ?_
      refine va_getN (D := dD) (ci := 3) (v := .int (gH 1)) (C := RX3) (T := TX3) (N := 9) hx hb hts iX3 hown hK.1 hP 5 rfl rfl 1 (by decide) f128 (fun _ h9 => h9) rfl dX4_takeTell_56 ?_
      refine lv_aload_n hx hb dX4_takeTell_59 rfl (lv_at hl 0 rfl) ?_
      refine va_get (D := dD) (ci := 4) (v := .int (gM_ 6)) (C := RX4) (T := TX4) (N := 18) hx hb hts iX4 hown hK.1 hP 0 rfl rfl 6 (by decide) f59 (fun _ h9 => h9) rfl dX4_takeTell_60 ?_
      refine lv_icmp_ne (tgt := 84) hx hb dX4_takeTell_63 (by decide) (fun c12 => ?_) (fun c12 => ?_)
      · have hsp := z_f c12 hsp
        exact K_84 _ _ ls gM_ gI2 gD3 (lo2) hP hD hS (lv_sub hl [0, 2] rfl) hsp
      · have hsp := z_t c12 hsp
        refine lv_aload_n hx hb dX4_takeTell_66 rfl (lv_at hl 1 rfl) ?_
        refine va_getN (D := dD) (ci := 3) (v := .int (gH 2)) (C := RX3) (T := TX3) (N := 9) hx hb hts iX3 hown hK.1 hP 5 rfl rfl 2 (by decide) f129 (fun _ h9 => h9) rfl dX4_takeTell_67 ?_
        refine lv_aload_n hx hb dX4_takeTell_70 rfl (lv_at hl 0 rfl) ?_
        refine va_get (D := dD) (ci := 4) (v := .ref (q 1)) (C := RX4) (T := TX4) (N := 18) hx hb hts iX4 hown hK.1 hP 0 rfl rfl 2 (by decide) f12 (fun _ h9 => h9) rfl dX4_takeTell_71 ?_
        refine va_getN (D := dD) (ci := 0) (v := .int (gB 2)) (C := RX0) (T := TX0) (N := 3) hx hb hts iX0 hown hK.1 hP 1 rfl rfl 2 (by decide) f68 (fun _ h9 => h9) rfl dX4_takeTell_74 ?_
        refine lv_icmp_ge (tgt := 84) hx hb dX4_takeTell_77 (by decide) (fun c13 => ?_) (fun c13 => ?_)
        · have hsp := z_t c13 hsp
          exact K_84 _ _ ls gM_ gI2 gD3 (lo2) hP hD hS (lv_sub hl [0, 2] rfl) hsp
        · have hsp := z_f c13 hsp
          exact K_80 _ _ ls gM_ gI2 gD3 (lo2) hP hD hS (lv_sub hl [0, 2] rfl) hsp
  unfold s_X4_takeTell at hsp
  refine lv_aload_n hx hb dX4_takeTell_0 rfl (lv_at hl 1 rfl) ?_
  refine va_getN (D := dD) (ci := 3) (v := .int (gH 1)) (C := RX3) (T := TX3) (N := 9) hx hb hts iX3 hown hK.1 hP 5 rfl rfl 1 (by decide) f128 (fun _ h9 => h9) rfl dX4_takeTell_1 ?_
  refine lv_aload_n hx hb dX4_takeTell_4 rfl (lv_at hl 0 rfl) ?_
  refine va_get (D := dD) (ci := 4) (v := .int (gM 6)) (C := RX4) (T := TX4) (N := 18) hx hb hts iX4 hown hK.1 hP 0 rfl rfl 6 (by decide) f59 (fun _ h9 => h9) rfl dX4_takeTell_5 ?_
  refine lv_icmp_ne (tgt := 39) hx hb dX4_takeTell_8 (by decide) (fun c1 => ?_) (fun c1 => ?_)
  · have hsp := z_f c1 hsp
    exact K_39 _ _ ls gM gI gD (p1) hP hD hS (lv_sub hl [0, 1, 2] rfl) hsp
  · have hsp := z_t c1 hsp
    refine lv_aload_n hx hb dX4_takeTell_11 rfl (lv_at hl 1 rfl) ?_
    refine va_getN (D := dD) (ci := 3) (v := .int (gH 2)) (C := RX3) (T := TX3) (N := 9) hx hb hts iX3 hown hK.1 hP 5 rfl rfl 2 (by decide) f129 (fun _ h9 => h9) rfl dX4_takeTell_12 ?_
    refine lv_aload_n hx hb dX4_takeTell_15 rfl (lv_at hl 0 rfl) ?_
    refine va_get (D := dD) (ci := 4) (v := .ref (q 1)) (C := RX4) (T := TX4) (N := 18) hx hb hts iX4 hown hK.1 hP 0 rfl rfl 2 (by decide) f12 (fun _ h9 => h9) rfl dX4_takeTell_16 ?_
    refine va_getN (D := dD) (ci := 0) (v := .int (gB 2)) (C := RX0) (T := TX0) (N := 3) hx hb hts iX0 hown hK.1 hP 1 rfl rfl 2 (by decide) f68 (fun _ h9 => h9) rfl dX4_takeTell_19 ?_
    refine lv_icmp_ne (tgt := 39) hx hb dX4_takeTell_22 (by decide) (fun c14 => ?_) (fun c14 => ?_)
    · have hsp := z_f c14 hsp
      exact K_39 _ _ ls gM gI gD (p1) hP hD hS (lv_sub hl [0, 1, 2] rfl) hsp
    · have hsp := z_t c14 hsp
      refine lv_aload_n hx hb dX4_takeTell_25 rfl (lv_at hl 0 rfl) ?_
      refine va_get (D := dD) (ci := 4) (v := .ref (q 4)) (C := RX4) (T := TX4) (N := 18) hx hb hts iX4 hown hK.1 hP 0 rfl rfl 3 (by decide) f21 (fun _ h9 => h9) rfl dX4_takeTell_26 ?_
      refine lv_dup hx hb dX4_takeTell_29 rfl ?_
      refine va_getN (D := dD) (ci := 2) (v := .int (gI 3)) (C := RX2) (T := TX2) (N := 4) hx hb hts iX2 hown hK.1 hP 2 rfl rfl 3 (by decide) f116 (fun _ h9 => h9) rfl dX4_takeTell_30 ?_
      refine lv_iconst (v := 1) hx hb dX4_takeTell_33 (by decide) ?_
      refine lv_iadd hx hb dX4_takeTell_34 ?_
      refine va_putN (D := dD) (ci := 2) (v := .int ((gI 3) + 1)) (ty := .int) (C := RX2) (T := TX2) (N := 4) hx hb hts iX2 tyX2 tyX2_ok nmX2 hown hK.1 hP hD hS 2 rfl rfl 3 (by decide) f116 (fun _ h9 => h9) rfl (by decide +kernel) rfl rfl (Nat.le_of_ble_eq_true rfl) dX4_takeTell_35 (fun H locs hP hD hS => ?_)
      obtain ⟨gI15, egI15, hsp⟩ := z_lt hsp
      have hP : va_P dD vwCl ([zM q aR aD ca gM, zB q gB, zI q gI15, zR aR gR, zD aD gD, zL aH gH]) H := by rw [egI15]; exact hP
      have hD : va_D A ([zM q aR aD ca gM, zB q gB, zI q gI15, zR aR gR, zD aD gD, zL aH gH]) := by rw [egI15]; exact hD
      obtain ⟨rfl, rfl, rfl⟩ := z_i3 hsp
      exact hret _ _ ls 38 dX4_takeTell_38 hP hD hS
def s_X4_takeOwnMix (gM : zF) (gB : zF) (mk : zF) (mx : zF) (p1 : Int32) (p2 : Int32) : Option (Int32 × (zF) × (zF) × (zF) × (zF)) := zl (va_up gM 10 ((-1))) fun (gM1 : zF) => zb4 (s_X0_takeIn gB mk mx (p1) (p2)) fun (v2 : Int32) (gB3 : zF) (mk4 : zF) (mx5 : zF) => (if v2 = 0 then some (0, gM1, gB3, mk4, mx5) else (if (gB3 2) = (gM1 7) then zb1 (s_X0_sumOfPieces gB3 mx5) fun (v9 : Int32) => (if v9 = (gM1 8) then some (1, gM1, gB3, mk4, mx5) else zb3 (s_X0_empty gB3 mk4 mx5) fun (gB12 : zF) (mk13 : zF) (mx14 : zF) => zl (va_up gM1 17 (((gM1 17) + 1))) fun (gM16 : zF) => some (1, gM16, gB12, mk13, mx14)) else some (1, gM1, gB3, mk4, mx5)))
abbrev rm_X4_takeOwnMix : Room := { frames := 3, cells := 0, slots := 0, locals := 68 }
set_option maxHeartbeats 4000000 in
set_option maxRecDepth 100000 in
theorem c_X4_takeOwnMix (l : Launch) (dD : va_G) (cI cA : ClassId) (q : Nat → Nat) (aR : Nat) (aD : Nat) (ca : Option Nat) (gM : zF) (gB : zF) (mk : zF) (mx : zF) (p1 : Int32) (p2 : Int32) (rv : Int32) (r_gM : zF) (r_gB : zF) (r_mk : zF) (r_mx : zF) (hsp : s_X4_takeOwnMix gM gB mk mx p1 p2 = some (rv, r_gM, r_gB, r_mk, r_mx)) : zMi l yX4_takeOwnMix wsX4_takeOwnMix rm_X4_takeOwnMix dD cI cA [.ref (q 0), .int p1, .int p2] ([zM q aR aD ca gM, zB q gB, zA cI (q 2) 12 mk, zA cI (q 3) 12 mx]) ([zM q aR aD ca r_gM, zB q r_gB, zA cI (q 2) 12 r_mk, zA cI (q 3) 12 r_mx]) rv := by
  refine zMi_of (cc := cX4_takeOwnMix) (maxL := 3) (by decide) rfl (Nat.le_of_ble_eq_true rfl) ?_
  intro p e s m args below meth c A Q ls hx hb hml hown hts hK hA hP hD hl hret
  have hown : s.vm.findClass RX4 = some m.cls := hown
  have iX4 : ∀ w ∈ wsX40, w ∈ wsX4_takeOwnMix := by decide +kernel
  have iX0 : ∀ w ∈ wsX00, w ∈ wsX4_takeOwnMix := by decide +kernel
  have f32 := hts (.fieldLink RX4 32 "MeshField$Machine" "dataAt" "I") (by decide +kernel)
  have f12 := hts (.fieldLink RX4 12 "MeshField$Machine" "basis" "LMeshField$Basis;") (by decide +kernel)
  have f68 : (Cond.fieldLinkNest RX4 68 "MeshField$Basis" "rank" "I" "MeshField").before args s = true := hK.nw (by decide +kernel)
  have f62 := hts (.fieldLink RX4 62 "MeshField$Machine" "pieces" "I") (by decide +kernel)
  have f56 := hts (.fieldLink RX4 56 "MeshField$Machine" "keptSum" "I") (by decide +kernel)
  have f160 := hts (.fieldLink RX4 160 "MeshField$Machine" "lies" "I") (by decide +kernel)
  have hS : va_S A s.heap s.heap [] := va_S.rf
  have hl : lv_has ls 3 [(0, .ref (q 0)), (1, .int p1), (2, .int p2)] := hl
  unfold s_X4_takeOwnMix at hsp
  refine lv_aload_n hx hb dX4_takeOwnMix_0 rfl (lv_at hl 0 rfl) ?_
  refine lv_iconst (v := (-1)) hx hb dX4_takeOwnMix_1 (by decide) ?_
  refine va_put (D := dD) (ci := 4) (v := .int (-1)) (ty := .int) (C := RX4) (T := TX4) (N := 18) hx hb hts iX4 tyX4 tyX4_ok nmX4 hown hK.1 hP hD hS 0 rfl rfl 10 (by decide) f32 (fun _ h9 => h9) rfl (by decide +kernel) rfl rfl (Nat.le_of_ble_eq_true rfl) dX4_takeOwnMix_2 (fun H locs hP hD hS => ?_)
  obtain ⟨gM1, egM1, hsp⟩ := z_lt hsp
  have hP : va_P dD vwCl ([zM q aR aD ca gM1, zB q gB, zA cI (q 2) 12 mk, zA cI (q 3) 12 mx]) H := by rw [egM1]; exact hP
  have hD : va_D A ([zM q aR aD ca gM1, zB q gB, zA cI (q 2) 12 mk, zA cI (q 3) 12 mx]) := by rw [egM1]; exact hD
  refine lv_aload_n hx hb dX4_takeOwnMix_5 rfl (lv_at hl 0 rfl) ?_
  refine va_get (D := dD) (ci := 4) (v := .ref (q 1)) (C := RX4) (T := TX4) (N := 18) hx hb hts iX4 hown hK.1 hP 0 rfl rfl 2 (by decide) f12 (fun _ h9 => h9) rfl dX4_takeOwnMix_6 ?_
  refine lv_iload_n hx hb dX4_takeOwnMix_9 rfl (lv_at hl 1 rfl) ?_
  refine lv_iload_n hx hb dX4_takeOwnMix_10 rfl (lv_at hl 2 rfl) ?_
  obtain ⟨v2, gB3, mk4, mx5, hc6, hsp⟩ := z_b4 hsp
  refine z_callVi ⟨hx, hb, hml, hown, hts⟩ hK (c_X0_takeIn l dD cI cA q gB mk mx (p1) (p2) v2 gB3 mk4 mx5 hc6) (cwV 2 hts gX4_takeOwnMix_X0_takeIn rfl rfl rfl (by decide +kernel) ⟨Nat.le_of_ble_eq_true rfl, Nat.le_of_ble_eq_true rfl⟩) (zJ.of (wc := [zB q gB, zA cI (q 2) 12 mk, zA cI (q 3) 12 mx]) (wc1 := [zB q gB3, zA cI (q 2) 12 mk4, zA cI (q 3) 12 mx5]) (wr := [zM q aR aD ca gM1]) (w2 := [zM q aR aD ca gM1, zB q gB3, zA cI (q 2) 12 mk4, zA cI (q 3) 12 mx5]) hP hD hS hA [1, 2, 3] [0] [0, 1, 2, 3] rfl rfl rfl rfl rfl rfl rfl) hS 0 0 rfl rfl rfl rfl hl.1 rfl (Nat.le_of_ble_eq_true rfl) dX4_takeOwnMix_11 ⟨Nat.zero_le _, Nat.zero_le _⟩ (fun H locs hP hD hS => ?_)
  refine lv_if_ne (tgt := 19) hx hb dX4_takeOwnMix_14 (by decide) (fun c7 => ?_) (fun c7 => ?_)
  · have hsp := z_f c7 hsp
    refine lv_aload_n hx hb dX4_takeOwnMix_19 rfl (lv_at hl 0 rfl) ?_
    refine va_get (D := dD) (ci := 4) (v := .ref (q 1)) (C := RX4) (T := TX4) (N := 18) hx hb hts iX4 hown hK.1 hP 0 rfl rfl 2 (by decide) f12 (fun _ h9 => h9) rfl dX4_takeOwnMix_20 ?_
    refine va_getN (D := dD) (ci := 0) (v := .int (gB3 2)) (C := RX0) (T := TX0) (N := 3) hx hb hts iX0 hown hK.1 hP 1 rfl rfl 2 (by decide) f68 (fun _ h9 => h9) rfl dX4_takeOwnMix_23 ?_
    refine lv_aload_n hx hb dX4_takeOwnMix_26 rfl (lv_at hl 0 rfl) ?_
    refine va_get (D := dD) (ci := 4) (v := .int (gM1 7)) (C := RX4) (T := TX4) (N := 18) hx hb hts iX4 hown hK.1 hP 0 rfl rfl 7 (by decide) f62 (fun _ h9 => h9) rfl dX4_takeOwnMix_27 ?_
    refine lv_icmp_ne (tgt := 64) hx hb dX4_takeOwnMix_30 (by decide) (fun c8 => ?_) (fun c8 => ?_)
    · have hsp := z_f c8 hsp
      refine lv_iconst (v := 1) hx hb dX4_takeOwnMix_64 (by decide) ?_
      obtain ⟨rfl, rfl, rfl, rfl, rfl⟩ := z_i5 hsp
      exact hret _ _ ls 65 dX4_takeOwnMix_65 rfl hP hD hS
    · have hsp := z_t c8 hsp
      refine lv_aload_n hx hb dX4_takeOwnMix_33 rfl (lv_at hl 0 rfl) ?_
      refine va_get (D := dD) (ci := 4) (v := .ref (q 1)) (C := RX4) (T := TX4) (N := 18) hx hb hts iX4 hown hK.1 hP 0 rfl rfl 2 (by decide) f12 (fun _ h9 => h9) rfl dX4_takeOwnMix_34 ?_
      obtain ⟨v9, hc10, hsp⟩ := z_b1 hsp
      refine z_callVi ⟨hx, hb, hml, hown, hts⟩ hK (c_X0_sumOfPieces l dD cI cA q gB3 mx5 v9 hc10) (cwV 0 hts gX4_takeOwnMix_X0_sumOfPieces rfl rfl rfl (by decide +kernel) ⟨Nat.le_of_ble_eq_true rfl, Nat.le_of_ble_eq_true rfl⟩) (zJ.of (wc := [zB q gB3, zA cI (q 3) 12 mx5]) (wc1 := [zB q gB3, zA cI (q 3) 12 mx5]) (wr := [zM q aR aD ca gM1, zA cI (q 2) 12 mk4]) (w2 := [zM q aR aD ca gM1, zB q gB3, zA cI (q 2) 12 mk4, zA cI (q 3) 12 mx5]) hP hD hS hA [1, 3] [0, 2] [0, 2, 1, 3] rfl rfl rfl rfl rfl rfl rfl) hS 0 0 rfl rfl rfl rfl hl.1 rfl (Nat.le_of_ble_eq_true rfl) dX4_takeOwnMix_37 ⟨Nat.zero_le _, Nat.zero_le _⟩ (fun H locs hP hD hS => ?_)
      refine lv_aload_n hx hb dX4_takeOwnMix_40 rfl (lv_at hl 0 rfl) ?_
      refine va_get (D := dD) (ci := 4) (v := .int (gM1 8)) (C := RX4) (T := TX4) (N := 18) hx hb hts iX4 hown hK.1 hP 0 rfl rfl 8 (by decide) f56 (fun _ h9 => h9) rfl dX4_takeOwnMix_41 ?_
      refine lv_icmp_eq (tgt := 64) hx hb dX4_takeOwnMix_44 (by decide) (fun c11 => ?_) (fun c11 => ?_)
      · have hsp := z_t c11 hsp
        refine lv_iconst (v := 1) hx hb dX4_takeOwnMix_64 (by decide) ?_
        obtain ⟨rfl, rfl, rfl, rfl, rfl⟩ := z_i5 hsp
        exact hret _ _ ls 65 dX4_takeOwnMix_65 rfl hP hD hS
      · have hsp := z_f c11 hsp
        refine lv_aload_n hx hb dX4_takeOwnMix_47 rfl (lv_at hl 0 rfl) ?_
        refine va_get (D := dD) (ci := 4) (v := .ref (q 1)) (C := RX4) (T := TX4) (N := 18) hx hb hts iX4 hown hK.1 hP 0 rfl rfl 2 (by decide) f12 (fun _ h9 => h9) rfl dX4_takeOwnMix_48 ?_
        obtain ⟨gB12, mk13, mx14, hc15, hsp⟩ := z_b3 hsp
        refine z_callVv ⟨hx, hb, hml, hown, hts⟩ hK (c_X0_empty l dD cI cA q gB3 mk4 mx5 gB12 mk13 mx14 hc15) (cwV 0 hts gX4_takeOwnMix_X0_empty rfl rfl rfl (by decide +kernel) ⟨Nat.le_of_ble_eq_true rfl, Nat.le_of_ble_eq_true rfl⟩) (zJ.of (wc := [zB q gB3, zA cI (q 2) 12 mk4, zA cI (q 3) 12 mx5]) (wc1 := [zB q gB12, zA cI (q 2) 12 mk13, zA cI (q 3) 12 mx14]) (wr := [zM q aR aD ca gM1]) (w2 := [zM q aR aD ca gM1, zB q gB12, zA cI (q 2) 12 mk13, zA cI (q 3) 12 mx14]) hP hD hS hA [1, 2, 3] [0] [0, 1, 2, 3] rfl rfl rfl rfl rfl rfl rfl) hS 0 0 rfl rfl rfl rfl hl.1 rfl (Nat.le_of_ble_eq_true rfl) dX4_takeOwnMix_51 ⟨Nat.zero_le _, Nat.zero_le _⟩ (fun H locs hP hD hS => ?_)
        refine lv_aload_n hx hb dX4_takeOwnMix_54 rfl (lv_at hl 0 rfl) ?_
        refine lv_dup hx hb dX4_takeOwnMix_55 rfl ?_
        refine va_get (D := dD) (ci := 4) (v := .int (gM1 17)) (C := RX4) (T := TX4) (N := 18) hx hb hts iX4 hown hK.1 hP 0 rfl rfl 17 (by decide) f160 (fun _ h9 => h9) rfl dX4_takeOwnMix_56 ?_
        refine lv_iconst (v := 1) hx hb dX4_takeOwnMix_59 (by decide) ?_
        refine lv_iadd hx hb dX4_takeOwnMix_60 ?_
        refine va_put (D := dD) (ci := 4) (v := .int ((gM1 17) + 1)) (ty := .int) (C := RX4) (T := TX4) (N := 18) hx hb hts iX4 tyX4 tyX4_ok nmX4 hown hK.1 hP hD hS 0 rfl rfl 17 (by decide) f160 (fun _ h9 => h9) rfl (by decide +kernel) rfl rfl (Nat.le_of_ble_eq_true rfl) dX4_takeOwnMix_61 (fun H locs hP hD hS => ?_)
        obtain ⟨gM16, egM16, hsp⟩ := z_lt hsp
        have hP : va_P dD vwCl ([zM q aR aD ca gM16, zB q gB12, zA cI (q 2) 12 mk13, zA cI (q 3) 12 mx14]) H := by rw [egM16]; exact hP
        have hD : va_D A ([zM q aR aD ca gM16, zB q gB12, zA cI (q 2) 12 mk13, zA cI (q 3) 12 mx14]) := by rw [egM16]; exact hD
        refine lv_iconst (v := 1) hx hb dX4_takeOwnMix_64 (by decide) ?_
        obtain ⟨rfl, rfl, rfl, rfl, rfl⟩ := z_i5 hsp
        exact hret _ _ ls 65 dX4_takeOwnMix_65 rfl hP hD hS
  · have hsp := z_t c7 hsp
    refine lv_iconst (v := 0) hx hb dX4_takeOwnMix_17 (by decide) ?_
    obtain ⟨rfl, rfl, rfl, rfl, rfl⟩ := z_i5 hsp
    exact hret _ _ ls 18 dX4_takeOwnMix_18 rfl hP hD hS
def s_X4_takeMix_b65 (gR : zF) (gH : zF) (gM_ : zF) (gB_ : zF) (mk_ : zF) (mx_ : zF) (gI_ : zF) (gD_ : zF) (lo2 : Int32) (t0 : Int32) : Option ((zF) × (zF) × (zF) × (zF) × (zF) × (zF)) := (if t0 = 0 then zb2 (s_X4_stir gM_ gI_ gR gD_ (lo2)) fun (gI4 : zF) (gD5 : zF) => some (gM_, gB_, mk_, mx_, gI4, gD5) else zb5 (s_X4_takeOwnMix gM_ gB_ mk_ mx_ ((gH 5)) ((gH 6))) fun (v7 : Int32) (gM8 : zF) (gB9 : zF) (mk10 : zF) (mx11 : zF) => (if v7 = 0 then some (gM8, gB9, mk10, mx11, gI_, gD_) else zb2 (s_X4_stir gM8 gI_ gR gD_ (lo2)) fun (gI14 : zF) (gD15 : zF) => some (gM8, gB9, mk10, mx11, gI14, gD15)))
def s_X4_takeMix_b64 (gR : zF) (gH : zF) (gM_ : zF) (gB_ : zF) (mk_ : zF) (mx_ : zF) (gI_ : zF) (gD_ : zF) (lo2 : Int32) : Option ((zF) × (zF) × (zF) × (zF) × (zF) × (zF)) := (s_X4_takeMix_b65 gR gH gM_ gB_ mk_ mx_ gI_ gD_ (lo2) (0))
def s_X4_takeMix_b27 (gR : zF) (gH : zF) (gM_ : zF) (gB_ : zF) (mk_ : zF) (mx_ : zF) (gI_ : zF) (gD_ : zF) (lo2 : Int32) : Option ((zF) × (zF) × (zF) × (zF) × (zF) × (zF)) := (if (gH 1) = (gM_ 6) then (if (gH 3) = (gM_ 7) then (if (gH 4) = (gM_ 8) then (s_X4_takeMix_b65 gR gH gM_ gB_ mk_ mx_ gI_ gD_ (lo2) (1)) else (s_X4_takeMix_b64 gR gH gM_ gB_ mk_ mx_ gI_ gD_ (lo2))) else (s_X4_takeMix_b64 gR gH gM_ gB_ mk_ mx_ gI_ gD_ (lo2))) else (s_X4_takeMix_b64 gR gH gM_ gB_ mk_ mx_ gI_ gD_ (lo2)))
def s_X4_takeMix (gM : zF) (gB : zF) (mk : zF) (mx : zF) (gI : zF) (gR : zF) (gD : zF) (gH : zF) (p1 : Int32) : Option ((zF) × (zF) × (zF) × (zF) × (zF) × (zF)) := (if (gH 1) ≤ (gM 6) then (s_X4_takeMix_b27 gR gH gM gB mk mx gI gD (p1)) else zb4 (s_X4_keep gM gB mk mx ((gH 1)) ((gH 3)) ((gH 4))) fun (gM19 : zF) (gB20 : zF) (mk21 : zF) (mx22 : zF) => (s_X4_takeMix_b27 gR gH gM19 gB20 mk21 mx22 gI gD (p1)))
abbrev rm_X4_takeMix : Room := { frames := 4, cells := 0, slots := 0, locals := 90 }
set_option maxHeartbeats 4000000 in
set_option maxRecDepth 100000 in
theorem c_X4_takeMix (l : Launch) (dD : va_G) (cI cA : ClassId) (q : Nat → Nat) (aR : Nat) (aD : Nat) (ca : Option Nat) (aH : Nat) (gM : zF) (gB : zF) (mk : zF) (mx : zF) (gI : zF) (gR : zF) (gD : zF) (gH : zF) (p1 : Int32) (r_gM : zF) (r_gB : zF) (r_mk : zF) (r_mx : zF) (r_gI : zF) (r_gD : zF) (hsp : s_X4_takeMix gM gB mk mx gI gR gD gH p1 = some (r_gM, r_gB, r_mk, r_mx, r_gI, r_gD)) : zMv l yX4_takeMix wsX4_takeMix rm_X4_takeMix dD cI cA [.ref (q 0), .ref aH, .int p1] ([zM q aR aD ca gM, zB q gB, zA cI (q 2) 12 mk, zA cI (q 3) 12 mx, zI q gI, zR aR gR, zD aD gD, zL aH gH]) ([zM q aR aD ca r_gM, zB q r_gB, zA cI (q 2) 12 r_mk, zA cI (q 3) 12 r_mx, zI q r_gI, zR aR gR, zD aD r_gD, zL aH gH]) := by
  refine zMv_of (cc := cX4_takeMix) (maxL := 4) (by decide) rfl (Nat.le_of_ble_eq_true rfl) ?_
  intro p e s m args below meth c A Q ls hx hb hml hown hts hK hA hP hD hl hret
  have hown : s.vm.findClass RX4 = some m.cls := hown
  have iX3 : ∀ w ∈ wsX30, w ∈ wsX4_takeMix := by decide +kernel
  have iX4 : ∀ w ∈ wsX40, w ∈ wsX4_takeMix := by decide +kernel
  have f128 : (Cond.fieldLinkNest RX4 128 "MeshField$Letter" "number" "I" "MeshField").before args s = true := hK.nw (by decide +kernel)
  have f59 := hts (.fieldLink RX4 59 "MeshField$Machine" "number" "I") (by decide +kernel)
  have f151 : (Cond.fieldLinkNest RX4 151 "MeshField$Letter" "mask" "I" "MeshField").before args s = true := hK.nw (by decide +kernel)
  have f154 : (Cond.fieldLinkNest RX4 154 "MeshField$Letter" "mixed" "I" "MeshField").before args s = true := hK.nw (by decide +kernel)
  have f130 : (Cond.fieldLinkNest RX4 130 "MeshField$Letter" "pieces" "I" "MeshField").before args s = true := hK.nw (by decide +kernel)
  have f62 := hts (.fieldLink RX4 62 "MeshField$Machine" "pieces" "I") (by decide +kernel)
  have f131 : (Cond.fieldLinkNest RX4 131 "MeshField$Letter" "programSum" "I" "MeshField").before args s = true := hK.nw (by decide +kernel)
  have f56 := hts (.fieldLink RX4 56 "MeshField$Machine" "keptSum" "I") (by decide +kernel)
  have hS : va_S A s.heap s.heap [] := va_S.rf
  have hl : lv_has ls 4 [(0, .ref (q 0)), (1, .ref aH), (2, .int p1)] := hl
  have K_65 : ∀ (H : Heap) (locs : List Loc) (ls : Array Slot) (gM_ : zF) (gB_ : zF) (mk_ : zF) (mx_ : zF) (gI_ : zF) (gD_ : zF) (lo2 : Int32) (t0 : Int32), va_P dD vwCl ([zM q aR aD ca gM_, zB q gB_, zA cI (q 2) 12 mk_, zA cI (q 3) 12 mx_, zI q gI_, zR aR gR, zD aD gD_, zL aH gH]) H → va_D A ([zM q aR aD ca gM_, zB q gB_, zA cI (q 2) 12 mk_, zA cI (q 3) 12 mx_, zI q gI_, zR aR gR, zD aD gD_, zL aH gH]) → va_S A s.heap H locs → lv_has ls 4 [(0, .ref (q 0)), (1, .ref aH), (2, .int lo2)] → s_X4_takeMix_b65 gR gH gM_ gB_ mk_ mx_ gI_ gD_ lo2 t0 = some (r_gM, r_gB, r_mk, r_mx, r_gI, r_gD) → W p l e rm_X4_takeMix s m args below meth c H locs 0 0 Q (F0 m 65 ls [.int t0]) := by
    intro H locs ls gM_ gB_ mk_ mx_ gI_ gD_ lo2 t0 hP hD hS hl hsp
    unfold s_X4_takeMix_b65 at hsp
    refine lv_istore_n (lv' := [(3, .int t0), (0, .ref (q 0)), (1, .ref aH), (2, .int lo2)]) hx hb dX4_takeMix_65 rfl hl (by decide) rfl (fun ls hl => ?_)
    refine lv_iload_n hx hb dX4_takeMix_66 rfl (lv_at hl 0 rfl) ?_
    refine lv_if_eq (tgt := 85) hx hb dX4_takeMix_67 (by decide) (fun c3 => ?_) (fun c3 => ?_)
    · have hsp := z_t c3 hsp
      refine lv_aload_n hx hb dX4_takeMix_85 rfl (lv_at hl 1 rfl) ?_
      refine lv_iload_n hx hb dX4_takeMix_86 rfl (lv_at hl 3 rfl) ?_
      obtain ⟨gI4, gD5, hc6, hsp⟩ := z_b2 hsp
      refine z_callVv ⟨hx, hb, hml, hown, hts⟩ hK (c_X4_stir l dD cI cA q aR aD ca gM_ gI_ gR gD_ (lo2) gI4 gD5 hc6) (cwV 1 hts gX4_takeMix_X4_stir rfl rfl rfl (by decide +kernel) ⟨Nat.le_of_ble_eq_true rfl, Nat.le_of_ble_eq_true rfl⟩) (zJ.of (wc := [zM q aR aD ca gM_, zI q gI_, zR aR gR, zD aD gD_]) (wc1 := [zM q aR aD ca gM_, zI q gI4, zR aR gR, zD aD gD5]) (wr := [zB q gB_, zA cI (q 2) 12 mk_, zA cI (q 3) 12 mx_, zL aH gH]) (w2 := [zM q aR aD ca gM_, zB q gB_, zA cI (q 2) 12 mk_, zA cI (q 3) 12 mx_, zI q gI4, zR aR gR, zD aD gD5, zL aH gH]) hP hD hS hA [0, 4, 5, 6] [1, 2, 3, 7] [4, 0, 1, 2, 5, 6, 7, 3] rfl rfl rfl rfl rfl rfl rfl) hS 0 4 rfl rfl rfl rfl hl.1 rfl (Nat.le_of_ble_eq_true rfl) dX4_takeMix_87 ⟨Nat.zero_le _, Nat.zero_le _⟩ (fun H locs hP hD hS => ?_)
      obtain ⟨rfl, rfl, rfl, rfl, rfl, rfl⟩ := z_i6 hsp
      exact hret _ _ ls 90 dX4_takeMix_90 hP hD hS
    · have hsp := z_f c3 hsp
      refine lv_aload_n hx hb dX4_takeMix_70 rfl (lv_at hl 1 rfl) ?_
      refine lv_aload_n hx hb dX4_takeMix_71 rfl (lv_at hl 2 rfl) ?_
      refine va_getN (D := dD) (ci := 3) (v := .int (gH 5)) (C := RX3) (T := TX3) (N := 9) hx hb hts iX3 hown hK.1 hP 7 rfl rfl 5 (by decide) f151 (fun _ h9 => h9) rfl dX4_takeMix_72 ?_
      refine lv_aload_n hx hb dX4_takeMix_75 rfl (lv_at hl 2 rfl) ?_
      refine va_getN (D := dD) (ci := 3) (v := .int (gH 6)) (C := RX3) (T := TX3) (N := 9) hx hb hts iX3 hown hK.1 hP 7 rfl rfl 6 (by decide) f154 (fun _ h9 => h9) rfl dX4_takeMix_76 ?_
      obtain ⟨v7, gM8, gB9, mk10, mx11, hc12, hsp⟩ := z_b5 hsp
      refine z_callVi ⟨hx, hb, hml, hown, hts⟩ hK (c_X4_takeOwnMix l dD cI cA q aR aD ca gM_ gB_ mk_ mx_ ((gH 5)) ((gH 6)) v7 gM8 gB9 mk10 mx11 hc12) (cwV 2 hts gX4_takeMix_X4_takeOwnMix rfl rfl rfl (by decide +kernel) ⟨Nat.le_of_ble_eq_true rfl, Nat.le_of_ble_eq_true rfl⟩) (zJ.of (wc := [zM q aR aD ca gM_, zB q gB_, zA cI (q 2) 12 mk_, zA cI (q 3) 12 mx_]) (wc1 := [zM q aR aD ca gM8, zB q gB9, zA cI (q 2) 12 mk10, zA cI (q 3) 12 mx11]) (wr := [zI q gI_, zR aR gR, zD aD gD_, zL aH gH]) (w2 := [zM q aR aD ca gM8, zB q gB9, zA cI (q 2) 12 mk10, zA cI (q 3) 12 mx11, zI q gI_, zR aR gR, zD aD gD_, zL aH gH]) hP hD hS hA [0, 1, 2, 3] [4, 5, 6, 7] [4, 5, 6, 7, 0, 1, 2, 3] rfl rfl rfl rfl rfl rfl rfl) hS 0 4 rfl rfl rfl rfl hl.1 rfl (Nat.le_of_ble_eq_true rfl) dX4_takeMix_79 ⟨Nat.zero_le _, Nat.zero_le _⟩ (fun H locs hP hD hS => ?_)
      refine lv_if_eq (tgt := 90) hx hb dX4_takeMix_82 (by decide) (fun c13 => ?_) (fun c13 => ?_)
      · have hsp := z_t c13 hsp
        obtain ⟨rfl, rfl, rfl, rfl, rfl, rfl⟩ := z_i6 hsp
        exact hret _ _ ls 90 dX4_takeMix_90 hP hD hS
      · have hsp := z_f c13 hsp
        refine lv_aload_n hx hb dX4_takeMix_85 rfl (lv_at hl 1 rfl) ?_
        refine lv_iload_n hx hb dX4_takeMix_86 rfl (lv_at hl 3 rfl) ?_
        obtain ⟨gI14, gD15, hc16, hsp⟩ := z_b2 hsp
        refine z_callVv ⟨hx, hb, hml, hown, hts⟩ hK (c_X4_stir l dD cI cA q aR aD ca gM8 gI_ gR gD_ (lo2) gI14 gD15 hc16) (cwV 1 hts gX4_takeMix_X4_stir rfl rfl rfl (by decide +kernel) ⟨Nat.le_of_ble_eq_true rfl, Nat.le_of_ble_eq_true rfl⟩) (zJ.of (wc := [zM q aR aD ca gM8, zI q gI_, zR aR gR, zD aD gD_]) (wc1 := [zM q aR aD ca gM8, zI q gI14, zR aR gR, zD aD gD15]) (wr := [zB q gB9, zA cI (q 2) 12 mk10, zA cI (q 3) 12 mx11, zL aH gH]) (w2 := [zM q aR aD ca gM8, zB q gB9, zA cI (q 2) 12 mk10, zA cI (q 3) 12 mx11, zI q gI14, zR aR gR, zD aD gD15, zL aH gH]) hP hD hS hA [0, 4, 5, 6] [1, 2, 3, 7] [4, 0, 1, 2, 5, 6, 7, 3] rfl rfl rfl rfl rfl rfl rfl) hS 0 4 rfl rfl rfl rfl hl.1 rfl (Nat.le_of_ble_eq_true rfl) dX4_takeMix_87 ⟨Nat.zero_le _, Nat.zero_le _⟩ (fun H locs hP hD hS => ?_)
        obtain ⟨rfl, rfl, rfl, rfl, rfl, rfl⟩ := z_i6 hsp
        exact hret _ _ ls 90 dX4_takeMix_90 hP hD hS
  have K_64 : ∀ (H : Heap) (locs : List Loc) (ls : Array Slot) (gM_ : zF) (gB_ : zF) (mk_ : zF) (mx_ : zF) (gI_ : zF) (gD_ : zF) (lo2 : Int32), va_P dD vwCl ([zM q aR aD ca gM_, zB q gB_, zA cI (q 2) 12 mk_, zA cI (q 3) 12 mx_, zI q gI_, zR aR gR, zD aD gD_, zL aH gH]) H → va_D A ([zM q aR aD ca gM_, zB q gB_, zA cI (q 2) 12 mk_, zA cI (q 3) 12 mx_, zI q gI_, zR aR gR, zD aD gD_, zL aH gH]) → va_S A s.heap H locs → lv_has ls 4 [(0, .ref (q 0)), (1, .ref aH), (2, .int lo2)] → s_X4_takeMix_b64 gR gH gM_ gB_ mk_ mx_ gI_ gD_ lo2 = some (r_gM, r_gB, r_mk, r_mx, r_gI, r_gD) → W p l e rm_X4_takeMix s m args below meth c H locs 0 0 Q (F0 m 64 ls []) := by
    intro H locs ls gM_ gB_ mk_ mx_ gI_ gD_ lo2 hP hD hS hl hsp
    unfold s_X4_takeMix_b64 at hsp
    refine lv_iconst (v := 0) hx hb dX4_takeMix_64 (by decide) ?_
    exact K_65 _ _ ls gM_ gB_ mk_ mx_ gI_ gD_ (lo2) (0) hP hD hS (lv_sub hl [0, 1, 2] rfl) hsp
  have K_27 : ∀ (H : Heap) (locs : List Loc) (ls : Array Slot) (gM_ : zF) (gB_ : zF) (mk_ : zF) (mx_ : zF) (gI_ : zF) (gD_ : zF) (lo2 : Int32), va_P dD vwCl ([zM q aR aD ca gM_, zB q gB_, zA cI (q 2) 12 mk_, zA cI (q 3) 12 mx_, zI q gI_, zR aR gR, zD aD gD_, zL aH gH]) H → va_D A ([zM q aR aD ca gM_, zB q gB_, zA cI (q 2) 12 mk_, zA cI (q 3) 12 mx_, zI q gI_, zR aR gR, zD aD gD_, zL aH gH]) → va_S A s.heap H locs → lv_has ls 4 [(0, .ref (q 0)), (1, .ref aH), (2, .int lo2)] → s_X4_takeMix_b27 gR gH gM_ gB_ mk_ mx_ gI_ gD_ lo2 = some (r_gM, r_gB, r_mk, r_mx, r_gI, r_gD) → W p l e rm_X4_takeMix s m args below meth c H locs 0 0 Q (F0 m 27 ls []) := by
    intro H locs ls gM_ gB_ mk_ mx_ gI_ gD_ lo2 hP hD hS hl hsp
    unfold s_X4_takeMix_b27 at hsp
    refine lv_aload_n hx hb dX4_takeMix_27 rfl (lv_at hl 1 rfl) ?_
    refine va_getN (D := dD) (ci := 3) (v := .int (gH 1)) (C := RX3) (T := TX3) (N := 9) hx hb hts iX3 hown hK.1 hP 7 rfl rfl 1 (by decide) f128 (fun _ h9 => h9) rfl dX4_takeMix_28 ?_
    refine lv_aload_n hx hb dX4_takeMix_31 rfl (lv_at hl 0 rfl) ?_
    refine va_get (D := dD) (ci := 4) (v := .int (gM_ 6)) (C := RX4) (T := TX4) (N := 18) hx hb hts iX4 hown hK.1 hP 0 rfl rfl 6 (by decide) f59 (fun _ h9 => h9) rfl dX4_takeMix_32 ?_
    refine lv_icmp_ne (tgt := 64) hx hb dX4_takeMix_35 (by decide) (fun c2 => ?_) (fun c2 => ?_)
    · have hsp := z_f c2 hsp
      exact K_64 _ _ ls gM_ gB_ mk_ mx_ gI_ gD_ (lo2) hP hD hS (lv_sub hl [0, 1, 2] rfl) hsp
    · have hsp := z_t c2 hsp
      refine lv_aload_n hx hb dX4_takeMix_38 rfl (lv_at hl 1 rfl) ?_
      refine va_getN (D := dD) (ci := 3) (v := .int (gH 3)) (C := RX3) (T := TX3) (N := 9) hx hb hts iX3 hown hK.1 hP 7 rfl rfl 3 (by decide) f130 (fun _ h9 => h9) rfl dX4_takeMix_39 ?_
      refine lv_aload_n hx hb dX4_takeMix_42 rfl (lv_at hl 0 rfl) ?_
      refine va_get (D := dD) (ci := 4) (v := .int (gM_ 7)) (C := RX4) (T := TX4) (N := 18) hx hb hts iX4 hown hK.1 hP 0 rfl rfl 7 (by decide) f62 (fun _ h9 => h9) rfl dX4_takeMix_43 ?_
      refine lv_icmp_ne (tgt := 64) hx hb dX4_takeMix_46 (by decide) (fun c17 => ?_) (fun c17 => ?_)
      · have hsp := z_f c17 hsp
        exact K_64 _ _ ls gM_ gB_ mk_ mx_ gI_ gD_ (lo2) hP hD hS (lv_sub hl [0, 1, 2] rfl) hsp
      · have hsp := z_t c17 hsp
        refine lv_aload_n hx hb dX4_takeMix_49 rfl (lv_at hl 1 rfl) ?_
        refine va_getN (D := dD) (ci := 3) (v := .int (gH 4)) (C := RX3) (T := TX3) (N := 9) hx hb hts iX3 hown hK.1 hP 7 rfl rfl 4 (by decide) f131 (fun _ h9 => h9) rfl dX4_takeMix_50 ?_
        refine lv_aload_n hx hb dX4_takeMix_53 rfl (lv_at hl 0 rfl) ?_
        refine va_get (D := dD) (ci := 4) (v := .int (gM_ 8)) (C := RX4) (T := TX4) (N := 18) hx hb hts iX4 hown hK.1 hP 0 rfl rfl 8 (by decide) f56 (fun _ h9 => h9) rfl dX4_takeMix_54 ?_
        refine lv_icmp_ne (tgt := 64) hx hb dX4_takeMix_57 (by decide) (fun c18 => ?_) (fun c18 => ?_)
        · have hsp := z_f c18 hsp
          exact K_64 _ _ ls gM_ gB_ mk_ mx_ gI_ gD_ (lo2) hP hD hS (lv_sub hl [0, 1, 2] rfl) hsp
        · have hsp := z_t c18 hsp
          refine lv_iconst (v := 1) hx hb dX4_takeMix_60 (by decide) ?_
          refine lv_goto (tgt := 65) hx hb dX4_takeMix_61 (by decide) ?_
          exact K_65 _ _ ls gM_ gB_ mk_ mx_ gI_ gD_ (lo2) (1) hP hD hS (lv_sub hl [0, 1, 2] rfl) hsp
  unfold s_X4_takeMix at hsp
  refine lv_aload_n hx hb dX4_takeMix_0 rfl (lv_at hl 1 rfl) ?_
  refine va_getN (D := dD) (ci := 3) (v := .int (gH 1)) (C := RX3) (T := TX3) (N := 9) hx hb hts iX3 hown hK.1 hP 7 rfl rfl 1 (by decide) f128 (fun _ h9 => h9) rfl dX4_takeMix_1 ?_
  refine lv_aload_n hx hb dX4_takeMix_4 rfl (lv_at hl 0 rfl) ?_
  refine va_get (D := dD) (ci := 4) (v := .int (gM 6)) (C := RX4) (T := TX4) (N := 18) hx hb hts iX4 hown hK.1 hP 0 rfl rfl 6 (by decide) f59 (fun _ h9 => h9) rfl dX4_takeMix_5 ?_
  refine lv_icmp_le (tgt := 27) hx hb dX4_takeMix_8 (by decide) (fun c1 => ?_) (fun c1 => ?_)
  · have hsp := z_t c1 hsp
    exact K_27 _ _ ls gM gB mk mx gI gD (p1) hP hD hS (lv_sub hl [0, 1, 2] rfl) hsp
  · have hsp := z_f c1 hsp
    refine lv_aload_n hx hb dX4_takeMix_11 rfl (lv_at hl 0 rfl) ?_
    refine lv_aload_n hx hb dX4_takeMix_12 rfl (lv_at hl 1 rfl) ?_
    refine va_getN (D := dD) (ci := 3) (v := .int (gH 1)) (C := RX3) (T := TX3) (N := 9) hx hb hts iX3 hown hK.1 hP 7 rfl rfl 1 (by decide) f128 (fun _ h9 => h9) rfl dX4_takeMix_13 ?_
    refine lv_aload_n hx hb dX4_takeMix_16 rfl (lv_at hl 1 rfl) ?_
    refine va_getN (D := dD) (ci := 3) (v := .int (gH 3)) (C := RX3) (T := TX3) (N := 9) hx hb hts iX3 hown hK.1 hP 7 rfl rfl 3 (by decide) f130 (fun _ h9 => h9) rfl dX4_takeMix_17 ?_
    refine lv_aload_n hx hb dX4_takeMix_20 rfl (lv_at hl 1 rfl) ?_
    refine va_getN (D := dD) (ci := 3) (v := .int (gH 4)) (C := RX3) (T := TX3) (N := 9) hx hb hts iX3 hown hK.1 hP 7 rfl rfl 4 (by decide) f131 (fun _ h9 => h9) rfl dX4_takeMix_21 ?_
    obtain ⟨gM19, gB20, mk21, mx22, hc23, hsp⟩ := z_b4 hsp
    refine z_callVv ⟨hx, hb, hml, hown, hts⟩ hK (c_X4_keep l dD cI cA q aR aD ca gM gB mk mx ((gH 1)) ((gH 3)) ((gH 4)) gM19 gB20 mk21 mx22 hc23) (cwV 3 hts gX4_takeMix_X4_keep rfl rfl rfl (by decide +kernel) ⟨Nat.le_of_ble_eq_true rfl, Nat.le_of_ble_eq_true rfl⟩) (zJ.of (wc := [zM q aR aD ca gM, zB q gB, zA cI (q 2) 12 mk, zA cI (q 3) 12 mx]) (wc1 := [zM q aR aD ca gM19, zB q gB20, zA cI (q 2) 12 mk21, zA cI (q 3) 12 mx22]) (wr := [zI q gI, zR aR gR, zD aD gD, zL aH gH]) (w2 := [zM q aR aD ca gM19, zB q gB20, zA cI (q 2) 12 mk21, zA cI (q 3) 12 mx22, zI q gI, zR aR gR, zD aD gD, zL aH gH]) hP hD hS hA [0, 1, 2, 3] [4, 5, 6, 7] [4, 5, 6, 7, 0, 1, 2, 3] rfl rfl rfl rfl rfl rfl rfl) hS 0 4 rfl rfl rfl rfl hl.1 rfl (Nat.le_of_ble_eq_true rfl) dX4_takeMix_24 ⟨Nat.zero_le _, Nat.zero_le _⟩ (fun H locs hP hD hS => ?_)
    exact K_27 _ _ ls gM19 gB20 mk21 mx22 gI gD (p1) hP hD hS (lv_sub hl [0, 1, 2] rfl) hsp
def s_X4_take (gM : zF) (gB : zF) (mk : zF) (mx : zF) (gI : zF) (gR : zF) (gD : zF) (gH : zF) (p1 : Int32) : Option ((zF) × (zF) × (zF) × (zF) × (zF) × (zF)) := zb2 (s_X4_takeTurn gM ((gH 7)) ((gH 8))) fun (v1 : Int32) (gM2 : zF) => (if (gH 0) = 1 then zb3 (s_X4_takeTell gM2 gB gI gR gD gH (p1)) fun (gM12 : zF) (gI13 : zF) (gD14 : zF) => some (gM12, gB, mk, mx, gI13, gD14) else zb6 (s_X4_takeMix gM2 gB mk mx gI gR gD gH (p1)) fun (gM5 : zF) (gB6 : zF) (mk7 : zF) (mx8 : zF) (gI9 : zF) (gD10 : zF) => some (gM5, gB6, mk7, mx8, gI9, gD10))
abbrev rm_X4_take : Room := { frames := 5, cells := 0, slots := 0, locals := 113 }
set_option maxHeartbeats 4000000 in
set_option maxRecDepth 100000 in
theorem c_X4_take (l : Launch) (dD : va_G) (cI cA : ClassId) (q : Nat → Nat) (aR : Nat) (aD : Nat) (ca : Option Nat) (aH : Nat) (gM : zF) (gB : zF) (mk : zF) (mx : zF) (gI : zF) (gR : zF) (gD : zF) (gH : zF) (p1 : Int32) (r_gM : zF) (r_gB : zF) (r_mk : zF) (r_mx : zF) (r_gI : zF) (r_gD : zF) (hsp : s_X4_take gM gB mk mx gI gR gD gH p1 = some (r_gM, r_gB, r_mk, r_mx, r_gI, r_gD)) : zMv l yX4_take wsX4_take rm_X4_take dD cI cA [.ref (q 0), .ref aH, .int p1] ([zM q aR aD ca gM, zB q gB, zA cI (q 2) 12 mk, zA cI (q 3) 12 mx, zI q gI, zR aR gR, zD aD gD, zL aH gH]) ([zM q aR aD ca r_gM, zB q r_gB, zA cI (q 2) 12 r_mk, zA cI (q 3) 12 r_mx, zI q r_gI, zR aR gR, zD aD r_gD, zL aH gH]) := by
  refine zMv_of (cc := cX4_take) (maxL := 3) (by decide) rfl (Nat.le_of_ble_eq_true rfl) ?_
  intro p e s m args below meth c A Q ls hx hb hml hown hts hK hA hP hD hl hret
  have hown : s.vm.findClass RX4 = some m.cls := hown
  have iX3 : ∀ w ∈ wsX30, w ∈ wsX4_take := by decide +kernel
  have f134 : (Cond.fieldLinkNest RX4 134 "MeshField$Letter" "turnNumber" "I" "MeshField").before args s = true := hK.nw (by decide +kernel)
  have f135 : (Cond.fieldLinkNest RX4 135 "MeshField$Letter" "turnTick" "I" "MeshField").before args s = true := hK.nw (by decide +kernel)
  have f125 : (Cond.fieldLinkNest RX4 125 "MeshField$Letter" "kind" "I" "MeshField").before args s = true := hK.nw (by decide +kernel)
  have hS : va_S A s.heap s.heap [] := va_S.rf
  have hl : lv_has ls 3 [(0, .ref (q 0)), (1, .ref aH), (2, .int p1)] := hl
  unfold s_X4_take at hsp
  refine lv_aload_n hx hb dX4_take_0 rfl (lv_at hl 0 rfl) ?_
  refine lv_aload_n hx hb dX4_take_1 rfl (lv_at hl 1 rfl) ?_
  refine va_getN (D := dD) (ci := 3) (v := .int (gH 7)) (C := RX3) (T := TX3) (N := 9) hx hb hts iX3 hown hK.1 hP 7 rfl rfl 7 (by decide) f134 (fun _ h9 => h9) rfl dX4_take_2 ?_
  refine lv_aload_n hx hb dX4_take_5 rfl (lv_at hl 1 rfl) ?_
  refine va_getN (D := dD) (ci := 3) (v := .int (gH 8)) (C := RX3) (T := TX3) (N := 9) hx hb hts iX3 hown hK.1 hP 7 rfl rfl 8 (by decide) f135 (fun _ h9 => h9) rfl dX4_take_6 ?_
  obtain ⟨v1, gM2, hc3, hsp⟩ := z_b2 hsp
  refine z_callVi ⟨hx, hb, hml, hown, hts⟩ hK (c_X4_takeTurn l dD cI cA q aR aD ca gM ((gH 7)) ((gH 8)) v1 gM2 hc3) (cwV 2 hts gX4_take_X4_takeTurn rfl rfl rfl (by decide +kernel) ⟨Nat.le_of_ble_eq_true rfl, Nat.le_of_ble_eq_true rfl⟩) (zJ.of (wc := [zM q aR aD ca gM]) (wc1 := [zM q aR aD ca gM2]) (wr := [zB q gB, zA cI (q 2) 12 mk, zA cI (q 3) 12 mx, zI q gI, zR aR gR, zD aD gD, zL aH gH]) (w2 := [zM q aR aD ca gM2, zB q gB, zA cI (q 2) 12 mk, zA cI (q 3) 12 mx, zI q gI, zR aR gR, zD aD gD, zL aH gH]) hP hD hS hA [0] [1, 2, 3, 4, 5, 6, 7] [7, 0, 1, 2, 3, 4, 5, 6] rfl rfl rfl rfl rfl rfl rfl) hS 0 4 rfl rfl rfl rfl hl.1 rfl (Nat.le_of_ble_eq_true rfl) dX4_take_9 ⟨Nat.zero_le _, Nat.zero_le _⟩ (fun H locs hP hD hS => ?_)
  refine lv_pop hx hb dX4_take_12 rfl ?_
  refine lv_aload_n hx hb dX4_take_13 rfl (lv_at hl 1 rfl) ?_
  refine va_getN (D := dD) (ci := 3) (v := .int (gH 0)) (C := RX3) (T := TX3) (N := 9) hx hb hts iX3 hown hK.1 hP 7 rfl rfl 0 (by decide) f125 (fun _ h9 => h9) rfl dX4_take_14 ?_
  refine lv_iconst (v := 1) hx hb dX4_take_17 (by decide) ?_
  refine lv_icmp_ne (tgt := 30) hx hb dX4_take_18 (by decide) (fun c4 => ?_) (fun c4 => ?_)
  · have hsp := z_f c4 hsp
    refine lv_aload_n hx hb dX4_take_30 rfl (lv_at hl 0 rfl) ?_
    refine lv_aload_n hx hb dX4_take_31 rfl (lv_at hl 1 rfl) ?_
    refine lv_iload_n hx hb dX4_take_32 rfl (lv_at hl 2 rfl) ?_
    obtain ⟨gM5, gB6, mk7, mx8, gI9, gD10, hc11, hsp⟩ := z_b6 hsp
    refine z_callVv ⟨hx, hb, hml, hown, hts⟩ hK (c_X4_takeMix l dD cI cA q aR aD ca aH gM2 gB mk mx gI gR gD gH (p1) gM5 gB6 mk7 mx8 gI9 gD10 hc11) (cwV 2 hts gX4_take_X4_takeMix rfl rfl rfl (by decide +kernel) ⟨Nat.le_of_ble_eq_true rfl, Nat.le_of_ble_eq_true rfl⟩) (zJ.of (wc := [zM q aR aD ca gM2, zB q gB, zA cI (q 2) 12 mk, zA cI (q 3) 12 mx, zI q gI, zR aR gR, zD aD gD, zL aH gH]) (wc1 := [zM q aR aD ca gM5, zB q gB6, zA cI (q 2) 12 mk7, zA cI (q 3) 12 mx8, zI q gI9, zR aR gR, zD aD gD10, zL aH gH]) (wr := []) (w2 := [zM q aR aD ca gM5, zB q gB6, zA cI (q 2) 12 mk7, zA cI (q 3) 12 mx8, zI q gI9, zR aR gR, zD aD gD10, zL aH gH]) hP hD hS hA [0, 1, 2, 3, 4, 5, 6, 7] [] [0, 1, 2, 3, 4, 5, 6, 7] rfl rfl rfl rfl rfl rfl rfl) hS 0 4 rfl rfl rfl rfl hl.1 rfl (Nat.le_of_ble_eq_true rfl) dX4_take_33 ⟨Nat.zero_le _, Nat.zero_le _⟩ (fun H locs hP hD hS => ?_)
    obtain ⟨rfl, rfl, rfl, rfl, rfl, rfl⟩ := z_i6 hsp
    exact hret _ _ ls 36 dX4_take_36 hP hD hS
  · have hsp := z_t c4 hsp
    refine lv_aload_n hx hb dX4_take_21 rfl (lv_at hl 0 rfl) ?_
    refine lv_aload_n hx hb dX4_take_22 rfl (lv_at hl 1 rfl) ?_
    refine lv_iload_n hx hb dX4_take_23 rfl (lv_at hl 2 rfl) ?_
    obtain ⟨gM12, gI13, gD14, hc15, hsp⟩ := z_b3 hsp
    refine z_callVv ⟨hx, hb, hml, hown, hts⟩ hK (c_X4_takeTell l dD cI cA q aR aD ca aH gM2 gB gI gR gD gH (p1) gM12 gI13 gD14 hc15) (cwV 2 hts gX4_take_X4_takeTell rfl rfl rfl (by decide +kernel) ⟨Nat.le_of_ble_eq_true rfl, Nat.le_of_ble_eq_true rfl⟩) (zJ.of (wc := [zM q aR aD ca gM2, zB q gB, zI q gI, zR aR gR, zD aD gD, zL aH gH]) (wc1 := [zM q aR aD ca gM12, zB q gB, zI q gI13, zR aR gR, zD aD gD14, zL aH gH]) (wr := [zA cI (q 2) 12 mk, zA cI (q 3) 12 mx]) (w2 := [zM q aR aD ca gM12, zB q gB, zA cI (q 2) 12 mk, zA cI (q 3) 12 mx, zI q gI13, zR aR gR, zD aD gD14, zL aH gH]) hP hD hS hA [0, 1, 4, 5, 6, 7] [2, 3] [2, 3, 0, 1, 4, 5, 6, 7] rfl rfl rfl rfl rfl rfl rfl) hS 0 4 rfl rfl rfl rfl hl.1 rfl (Nat.le_of_ble_eq_true rfl) dX4_take_24 ⟨Nat.zero_le _, Nat.zero_le _⟩ (fun H locs hP hD hS => ?_)
    refine lv_goto (tgt := 36) hx hb dX4_take_27 (by decide) ?_
    obtain ⟨rfl, rfl, rfl, rfl, rfl, rfl⟩ := z_i6 hsp
    exact hret _ _ ls 36 dX4_take_36 hP hD hS
def s_X4_end_b56 (gB : zF) (gR : zF) (gM_ : zF) (gI_ : zF) (gD_ : zF) (lo1 : Int32) : Option ((zF) × (zF) × (zF)) := (if (gM_ 11) = 0 then some (gM_, gI_, gD_) else (if (lo1 + 1) < (gM_ 12) then some (gM_, gI_, gD_) else zb1 (s_X4_isWholeOf gM_ gB ((gM_ 11))) fun (v4 : Int32) => (if v4 = 0 then some (gM_, gI_, gD_) else zl (va_up gM_ 9 ((gM_ 11))) fun (gM7 : zF) => some (gM7, gI_, gD_))))
def s_X4_end (gM : zF) (gB : zF) (gI : zF) (gR : zF) (gD : zF) (p1 : Int32) : Option ((zF) × (zF) × (zF)) := (if ((p1 + 1) - (gI 1)) < (gI 0) then (s_X4_end_b56 gB gR gM gI gD (p1)) else zl ((zMin (((gI 0) * 2)) ((gR 2)))) fun (x8 : Int32) => zb2 (s_X2_begin gI gD (x8) ((p1 + 1))) fun (gI9 : zF) (gD10 : zF) => (s_X4_end_b56 gB gR gM gI9 gD10 (p1)))
abbrev rm_X4_end : Room := { frames := 2, cells := 0, slots := 0, locals := 44 }
set_option maxHeartbeats 4000000 in
set_option maxRecDepth 100000 in
theorem c_X4_end (l : Launch) (dD : va_G) (cI cA : ClassId) (q : Nat → Nat) (aR : Nat) (aD : Nat) (ca : Option Nat) (gM : zF) (gB : zF) (gI : zF) (gR : zF) (gD : zF) (p1 : Int32) (r_gM : zF) (r_gI : zF) (r_gD : zF) (hsp : s_X4_end gM gB gI gR gD p1 = some (r_gM, r_gI, r_gD)) : zMv l yX4_end wsX4_end rm_X4_end dD cI cA [.ref (q 0), .int p1] ([zM q aR aD ca gM, zB q gB, zI q gI, zR aR gR, zD aD gD]) ([zM q aR aD ca r_gM, zB q gB, zI q r_gI, zR aR gR, zD aD r_gD]) := by
  refine zMv_of (cc := cX4_end) (maxL := 3) (by decide) rfl (Nat.le_of_ble_eq_true rfl) ?_
  intro p e s m args below meth c A Q ls hx hb hml hown hts hK hA hP hD hl hret
  have hown : s.vm.findClass RX4 = some m.cls := hown
  have iX4 : ∀ w ∈ wsX40, w ∈ wsX4_end := by decide +kernel
  have iX2 : ∀ w ∈ wsX20, w ∈ wsX4_end := by decide +kernel
  have iX5 : ∀ w ∈ wsX50, w ∈ wsX4_end := by decide +kernel
  have f21 := hts (.fieldLink RX4 21 "MeshField$Machine" "interval" "LMeshField$Interval;") (by decide +kernel)
  have f163 : (Cond.fieldLinkNest RX4 163 "MeshField$Interval" "began" "I" "MeshField").before args s = true := hK.nw (by decide +kernel)
  have f75 : (Cond.fieldLinkNest RX4 75 "MeshField$Interval" "span" "I" "MeshField").before args s = true := hK.nw (by decide +kernel)
  have f87 := hts (.fieldLink RX4 87 "MeshField$Machine" "turnNumber" "I") (by decide +kernel)
  have f90 := hts (.fieldLink RX4 90 "MeshField$Machine" "turnTick" "I") (by decide +kernel)
  have f179 := hts (.fieldLink RX4 179 "MeshField$Machine" "runs" "I") (by decide +kernel)
  have f36 := hts (.fieldLink RX4 36 "MeshField$Machine" "rules" "LMeshField$Rules;") (by decide +kernel)
  have f166 : (Cond.fieldLinkNest RX4 166 "MeshField$Rules" "high" "I" "MeshField").before args s = true := hK.nw (by decide +kernel)
  have f40 := hts (.fieldLink RX4 40 "MeshField$Machine" "draws" "LMeshField$Draws;") (by decide +kernel)
  have hS : va_S A s.heap s.heap [] := va_S.rf
  have hl : lv_has ls 3 [(0, .ref (q 0)), (1, .int p1)] := hl
  have K_56 : ∀ (H : Heap) (locs : List Loc) (ls : Array Slot) (gM_ : zF) (gI_ : zF) (gD_ : zF) (lo1 : Int32), va_P dD vwCl ([zM q aR aD ca gM_, zB q gB, zI q gI_, zR aR gR, zD aD gD_]) H → va_D A ([zM q aR aD ca gM_, zB q gB, zI q gI_, zR aR gR, zD aD gD_]) → va_S A s.heap H locs → lv_has ls 3 [(0, .ref (q 0)), (1, .int lo1)] → s_X4_end_b56 gB gR gM_ gI_ gD_ lo1 = some (r_gM, r_gI, r_gD) → W p l e rm_X4_end s m args below meth c H locs 0 0 Q (F0 m 56 ls []) := by
    intro H locs ls gM_ gI_ gD_ lo1 hP hD hS hl hsp
    unfold s_X4_end_b56 at hsp
    refine lv_aload_n hx hb dX4_end_56 rfl (lv_at hl 0 rfl) ?_
    refine va_get (D := dD) (ci := 4) (v := .int (gM_ 11)) (C := RX4) (T := TX4) (N := 18) hx hb hts iX4 hown hK.1 hP 0 rfl rfl 11 (by decide) f87 (fun _ h9 => h9) rfl dX4_end_57 ?_
    refine lv_if_eq (tgt := 92) hx hb dX4_end_60 (by decide) (fun c2 => ?_) (fun c2 => ?_)
    · have hsp := z_t c2 hsp
      obtain ⟨rfl, rfl, rfl⟩ := z_i3 hsp
      exact hret _ _ ls 92 dX4_end_92 hP hD hS
    · have hsp := z_f c2 hsp
      refine lv_iload_n hx hb dX4_end_63 rfl (lv_at hl 1 rfl) ?_
      refine lv_iconst (v := 1) hx hb dX4_end_64 (by decide) ?_
      refine lv_iadd hx hb dX4_end_65 ?_
      refine lv_aload_n hx hb dX4_end_66 rfl (lv_at hl 0 rfl) ?_
      refine va_get (D := dD) (ci := 4) (v := .int (gM_ 12)) (C := RX4) (T := TX4) (N := 18) hx hb hts iX4 hown hK.1 hP 0 rfl rfl 12 (by decide) f90 (fun _ h9 => h9) rfl dX4_end_67 ?_
      refine lv_icmp_lt (tgt := 92) hx hb dX4_end_70 (by decide) (fun c3 => ?_) (fun c3 => ?_)
      · have hsp := z_t c3 hsp
        obtain ⟨rfl, rfl, rfl⟩ := z_i3 hsp
        exact hret _ _ ls 92 dX4_end_92 hP hD hS
      · have hsp := z_f c3 hsp
        refine lv_aload_n hx hb dX4_end_73 rfl (lv_at hl 0 rfl) ?_
        refine lv_aload_n hx hb dX4_end_74 rfl (lv_at hl 0 rfl) ?_
        refine va_get (D := dD) (ci := 4) (v := .int (gM_ 11)) (C := RX4) (T := TX4) (N := 18) hx hb hts iX4 hown hK.1 hP 0 rfl rfl 11 (by decide) f87 (fun _ h9 => h9) rfl dX4_end_75 ?_
        obtain ⟨v4, hc5, hsp⟩ := z_b1 hsp
        refine z_callVi ⟨hx, hb, hml, hown, hts⟩ hK (c_X4_isWholeOf l dD cI cA q aR aD ca gM_ gB ((gM_ 11)) v4 hc5) (cwV 1 hts gX4_end_X4_isWholeOf rfl rfl rfl (by decide +kernel) ⟨Nat.le_of_ble_eq_true rfl, Nat.le_of_ble_eq_true rfl⟩) (zJ.of (wc := [zM q aR aD ca gM_, zB q gB]) (wc1 := [zM q aR aD ca gM_, zB q gB]) (wr := [zI q gI_, zR aR gR, zD aD gD_]) (w2 := [zM q aR aD ca gM_, zB q gB, zI q gI_, zR aR gR, zD aD gD_]) hP hD hS hA [0, 1] [2, 3, 4] [3, 4, 0, 1, 2] rfl rfl rfl rfl rfl rfl rfl) hS 0 4 rfl rfl rfl rfl hl.1 rfl (Nat.le_of_ble_eq_true rfl) dX4_end_78 ⟨Nat.zero_le _, Nat.zero_le _⟩ (fun H locs hP hD hS => ?_)
        refine lv_if_eq (tgt := 92) hx hb dX4_end_81 (by decide) (fun c6 => ?_) (fun c6 => ?_)
        · have hsp := z_t c6 hsp
          obtain ⟨rfl, rfl, rfl⟩ := z_i3 hsp
          exact hret _ _ ls 92 dX4_end_92 hP hD hS
        · have hsp := z_f c6 hsp
          refine lv_aload_n hx hb dX4_end_84 rfl (lv_at hl 0 rfl) ?_
          refine lv_aload_n hx hb dX4_end_85 rfl (lv_at hl 0 rfl) ?_
          refine va_get (D := dD) (ci := 4) (v := .int (gM_ 11)) (C := RX4) (T := TX4) (N := 18) hx hb hts iX4 hown hK.1 hP 0 rfl rfl 11 (by decide) f87 (fun _ h9 => h9) rfl dX4_end_86 ?_
          refine va_put (D := dD) (ci := 4) (v := .int (gM_ 11)) (ty := .int) (C := RX4) (T := TX4) (N := 18) hx hb hts iX4 tyX4 tyX4_ok nmX4 hown hK.1 hP hD hS 0 rfl rfl 9 (by decide) f179 (fun _ h9 => h9) rfl (by decide +kernel) rfl rfl (Nat.le_of_ble_eq_true rfl) dX4_end_89 (fun H locs hP hD hS => ?_)
          obtain ⟨gM7, egM7, hsp⟩ := z_lt hsp
          have hP : va_P dD vwCl ([zM q aR aD ca gM7, zB q gB, zI q gI_, zR aR gR, zD aD gD_]) H := by rw [egM7]; exact hP
          have hD : va_D A ([zM q aR aD ca gM7, zB q gB, zI q gI_, zR aR gR, zD aD gD_]) := by rw [egM7]; exact hD
          obtain ⟨rfl, rfl, rfl⟩ := z_i3 hsp
          exact hret _ _ ls 92 dX4_end_92 hP hD hS
  unfold s_X4_end at hsp
  refine lv_iload_n hx hb dX4_end_0 rfl (lv_at hl 1 rfl) ?_
  refine lv_iconst (v := 1) hx hb dX4_end_1 (by decide) ?_
  refine lv_iadd hx hb dX4_end_2 ?_
  refine lv_aload_n hx hb dX4_end_3 rfl (lv_at hl 0 rfl) ?_
  refine va_get (D := dD) (ci := 4) (v := .ref (q 4)) (C := RX4) (T := TX4) (N := 18) hx hb hts iX4 hown hK.1 hP 0 rfl rfl 3 (by decide) f21 (fun _ h9 => h9) rfl dX4_end_4 ?_
  refine va_getN (D := dD) (ci := 2) (v := .int (gI 1)) (C := RX2) (T := TX2) (N := 4) hx hb hts iX2 hown hK.1 hP 2 rfl rfl 1 (by decide) f163 (fun _ h9 => h9) rfl dX4_end_7 ?_
  refine lv_isub hx hb dX4_end_10 ?_
  refine lv_aload_n hx hb dX4_end_11 rfl (lv_at hl 0 rfl) ?_
  refine va_get (D := dD) (ci := 4) (v := .ref (q 4)) (C := RX4) (T := TX4) (N := 18) hx hb hts iX4 hown hK.1 hP 0 rfl rfl 3 (by decide) f21 (fun _ h9 => h9) rfl dX4_end_12 ?_
  refine va_getN (D := dD) (ci := 2) (v := .int (gI 0)) (C := RX2) (T := TX2) (N := 4) hx hb hts iX2 hown hK.1 hP 2 rfl rfl 0 (by decide) f75 (fun _ h9 => h9) rfl dX4_end_15 ?_
  refine lv_icmp_lt (tgt := 56) hx hb dX4_end_18 (by decide) (fun c1 => ?_) (fun c1 => ?_)
  · have hsp := z_t c1 hsp
    exact K_56 _ _ ls gM gI gD (p1) hP hD hS (lv_sub hl [0, 1] rfl) hsp
  · have hsp := z_f c1 hsp
    refine lv_aload_n hx hb dX4_end_21 rfl (lv_at hl 0 rfl) ?_
    refine va_get (D := dD) (ci := 4) (v := .ref (q 4)) (C := RX4) (T := TX4) (N := 18) hx hb hts iX4 hown hK.1 hP 0 rfl rfl 3 (by decide) f21 (fun _ h9 => h9) rfl dX4_end_22 ?_
    refine va_getN (D := dD) (ci := 2) (v := .int (gI 0)) (C := RX2) (T := TX2) (N := 4) hx hb hts iX2 hown hK.1 hP 2 rfl rfl 0 (by decide) f75 (fun _ h9 => h9) rfl dX4_end_25 ?_
    refine lv_iconst (v := 2) hx hb dX4_end_28 (by decide) ?_
    refine lv_imul hx hb dX4_end_29 ?_
    refine lv_aload_n hx hb dX4_end_30 rfl (lv_at hl 0 rfl) ?_
    refine va_get (D := dD) (ci := 4) (v := .ref aR) (C := RX4) (T := TX4) (N := 18) hx hb hts iX4 hown hK.1 hP 0 rfl rfl 0 (by decide) f36 (fun _ h9 => h9) rfl dX4_end_31 ?_
    refine va_getN (D := dD) (ci := 5) (v := .int (gR 2)) (C := RX5) (T := TX5) (N := 4) hx hb hts iX5 hown hK.1 hP 3 rfl rfl 2 (by decide) f166 (fun _ h9 => h9) rfl dX4_end_34 ?_
    refine va_mmin hx hb (hml.trans hl.1.symm) hown (hts (.methodLink RX4 169 Lib.Math.min.name) (by decide +kernel)) (hts (.static Lib.Math.min.name) (by decide +kernel)) (hts (.initialized "java/lang/Math") (by decide +kernel)) (hts (.code Lib.Math.min.name Lib.Math.min.code 2 (some .int)) (by decide +kernel)) (Nat.le_of_ble_eq_true rfl) (Nat.le_of_ble_eq_true rfl) (Nat.zero_le _) (Nat.zero_le _) dX4_end_37 ?_
    refine z_top (y := (zMin (((gI 0) * 2)) ((gR 2)))) rfl ?_
    obtain ⟨x8, ex8, hsp⟩ := z_lt hsp
    refine z_top ex8 ?_
    refine lv_istore_n (lv' := [(2, .int x8), (0, .ref (q 0)), (1, .int p1)]) hx hb dX4_end_40 rfl hl (by decide) rfl (fun ls hl => ?_)
    refine lv_aload_n hx hb dX4_end_41 rfl (lv_at hl 1 rfl) ?_
    refine va_get (D := dD) (ci := 4) (v := .ref (q 4)) (C := RX4) (T := TX4) (N := 18) hx hb hts iX4 hown hK.1 hP 0 rfl rfl 3 (by decide) f21 (fun _ h9 => h9) rfl dX4_end_42 ?_
    refine lv_iload_n hx hb dX4_end_45 rfl (lv_at hl 0 rfl) ?_
    refine lv_iload_n hx hb dX4_end_46 rfl (lv_at hl 2 rfl) ?_
    refine lv_iconst (v := 1) hx hb dX4_end_47 (by decide) ?_
    refine lv_iadd hx hb dX4_end_48 ?_
    refine lv_aload_n hx hb dX4_end_49 rfl (lv_at hl 1 rfl) ?_
    refine va_get (D := dD) (ci := 4) (v := .ref aD) (C := RX4) (T := TX4) (N := 18) hx hb hts iX4 hown hK.1 hP 0 rfl rfl 1 (by decide) f40 (fun _ h9 => h9) rfl dX4_end_50 ?_
    obtain ⟨gI9, gD10, hc11, hsp⟩ := z_b2 hsp
    refine z_callVv ⟨hx, hb, hml, hown, hts⟩ hK (c_X2_begin l dD cI cA q aD gI gD (x8) ((p1 + 1)) gI9 gD10 hc11) (cwV 3 hts gX4_end_X2_begin rfl rfl rfl (by decide +kernel) ⟨Nat.le_of_ble_eq_true rfl, Nat.le_of_ble_eq_true rfl⟩) (zJ.of (wc := [zI q gI, zD aD gD]) (wc1 := [zI q gI9, zD aD gD10]) (wr := [zM q aR aD ca gM, zB q gB, zR aR gR]) (w2 := [zM q aR aD ca gM, zB q gB, zI q gI9, zR aR gR, zD aD gD10]) hP hD hS hA [2, 4] [0, 1, 3] [0, 1, 3, 2, 4] rfl rfl rfl rfl rfl rfl rfl) hS 0 2 rfl rfl rfl rfl hl.1 rfl (Nat.le_of_ble_eq_true rfl) dX4_end_53 ⟨Nat.zero_le _, Nat.zero_le _⟩ (fun H locs hP hD hS => ?_)
    exact K_56 _ _ ls gM gI9 gD10 (p1) hP hD hS (lv_sub hl [1, 2] rfl) hsp
def s_X4_answer (gM : zF) (gB : zF) (gI : zF) (p1 : Int32) : Option Int32 := (if p1 = 0 then some ((gM 6)) else (if p1 = 1 then some ((gM 7)) else (if p1 = 2 then some ((gB 2)) else (if p1 = 3 then zb1 (s_X4_isWhole gM gB) fun (v5 : Int32) => (if v5 = 0 then some (0) else some (1)) else (if p1 = 4 then some ((gM 9)) else (if p1 = 5 then some ((gI 0)) else (if p1 = 6 then some ((gI 1)) else (if p1 = 7 then some ((gI 2)) else (if p1 = 8 then some ((gI 3)) else (if p1 = 9 then some ((gM 10)) else (if p1 = 10 then some ((gM 13)) else (if p1 = 11 then some ((gM 14)) else (if p1 = 12 then some ((gM 15)) else (if p1 = 13 then some ((gM 16)) else (if p1 = 14 then some ((gM 17)) else (if p1 = 15 then some ((gM 11)) else (if p1 = 16 then some ((gM 12)) else some ((-1)))))))))))))))))))
abbrev rm_X4_answer : Room := { frames := 1, cells := 0, slots := 0, locals := 20 }
set_option maxHeartbeats 4000000 in
set_option maxRecDepth 100000 in
theorem c_X4_answer (l : Launch) (dD : va_G) (cI cA : ClassId) (q : Nat → Nat) (aR : Nat) (aD : Nat) (ca : Option Nat) (gM : zF) (gB : zF) (gI : zF) (p1 : Int32) (rv : Int32) (hsp : s_X4_answer gM gB gI p1 = some rv) : zMi l yX4_answer wsX4_answer rm_X4_answer dD cI cA [.ref (q 0), .int p1] ([zM q aR aD ca gM, zB q gB, zI q gI]) ([zM q aR aD ca gM, zB q gB, zI q gI]) rv := by
  refine zMi_of (cc := cX4_answer) (maxL := 2) (by decide) rfl (Nat.le_of_ble_eq_true rfl) ?_
  intro p e s m args below meth c A Q ls hx hb hml hown hts hK hA hP hD hl hret
  have hown : s.vm.findClass RX4 = some m.cls := hown
  have iX4 : ∀ w ∈ wsX40, w ∈ wsX4_answer := by decide +kernel
  have iX0 : ∀ w ∈ wsX00, w ∈ wsX4_answer := by decide +kernel
  have iX2 : ∀ w ∈ wsX20, w ∈ wsX4_answer := by decide +kernel
  have f59 := hts (.fieldLink RX4 59 "MeshField$Machine" "number" "I") (by decide +kernel)
  have f62 := hts (.fieldLink RX4 62 "MeshField$Machine" "pieces" "I") (by decide +kernel)
  have f12 := hts (.fieldLink RX4 12 "MeshField$Machine" "basis" "LMeshField$Basis;") (by decide +kernel)
  have f68 : (Cond.fieldLinkNest RX4 68 "MeshField$Basis" "rank" "I" "MeshField").before args s = true := hK.nw (by decide +kernel)
  have f179 := hts (.fieldLink RX4 179 "MeshField$Machine" "runs" "I") (by decide +kernel)
  have f21 := hts (.fieldLink RX4 21 "MeshField$Machine" "interval" "LMeshField$Interval;") (by decide +kernel)
  have f75 : (Cond.fieldLinkNest RX4 75 "MeshField$Interval" "span" "I" "MeshField").before args s = true := hK.nw (by decide +kernel)
  have f163 : (Cond.fieldLinkNest RX4 163 "MeshField$Interval" "began" "I" "MeshField").before args s = true := hK.nw (by decide +kernel)
  have f113 : (Cond.fieldLinkNest RX4 113 "MeshField$Interval" "tellsAt" "I" "MeshField").before args s = true := hK.nw (by decide +kernel)
  have f116 : (Cond.fieldLinkNest RX4 116 "MeshField$Interval" "heard" "I" "MeshField").before args s = true := hK.nw (by decide +kernel)
  have f32 := hts (.fieldLink RX4 32 "MeshField$Machine" "dataAt" "I") (by decide +kernel)
  have f122 := hts (.fieldLink RX4 122 "MeshField$Machine" "tellsSent" "I") (by decide +kernel)
  have f110 := hts (.fieldLink RX4 110 "MeshField$Machine" "mixesSent" "I") (by decide +kernel)
  have f182 := hts (.fieldLink RX4 182 "MeshField$Machine" "spoilt" "I") (by decide +kernel)
  have f185 := hts (.fieldLink RX4 185 "MeshField$Machine" "lost" "I") (by decide +kernel)
  have f160 := hts (.fieldLink RX4 160 "MeshField$Machine" "lies" "I") (by decide +kernel)
  have f87 := hts (.fieldLink RX4 87 "MeshField$Machine" "turnNumber" "I") (by decide +kernel)
  have f90 := hts (.fieldLink RX4 90 "MeshField$Machine" "turnTick" "I") (by decide +kernel)
  have hS : va_S A s.heap s.heap [] := va_S.rf
  have hl : lv_has ls 2 [(0, .ref (q 0)), (1, .int p1)] := hl
  unfold s_X4_answer at hsp
  refine lv_iload_n hx hb dX4_answer_0 rfl (lv_at hl 1 rfl) ?_
  by_cases c1 : p1 = 0
  · have hsp := z_t c1 hsp
    refine lv_tableIn (tgt := 84) (off := 83) hx hb dX4_answer_1 (by rw [c1]; decide) (by rw [c1]; decide) (by rw [c1]; rfl) (by decide) ?_
    refine lv_aload_n hx hb dX4_answer_84 rfl (lv_at hl 0 rfl) ?_
    refine va_get (D := dD) (ci := 4) (v := .int (gM 6)) (C := RX4) (T := TX4) (N := 18) hx hb hts iX4 hown hK.1 hP 0 rfl rfl 6 (by decide) f59 (fun _ h9 => h9) rfl dX4_answer_85 ?_
    obtain rfl := Option.some.inj hsp
    exact hret _ _ ls 88 dX4_answer_88 rfl hP hD hS
  have hsp := z_f c1 hsp
  by_cases c2 : p1 = 1
  · have hsp := z_t c2 hsp
    refine lv_tableIn (tgt := 89) (off := 88) hx hb dX4_answer_1 (by rw [c2]; decide) (by rw [c2]; decide) (by rw [c2]; rfl) (by decide) ?_
    refine lv_aload_n hx hb dX4_answer_89 rfl (lv_at hl 0 rfl) ?_
    refine va_get (D := dD) (ci := 4) (v := .int (gM 7)) (C := RX4) (T := TX4) (N := 18) hx hb hts iX4 hown hK.1 hP 0 rfl rfl 7 (by decide) f62 (fun _ h9 => h9) rfl dX4_answer_90 ?_
    obtain rfl := Option.some.inj hsp
    exact hret _ _ ls 93 dX4_answer_93 rfl hP hD hS
  have hsp := z_f c2 hsp
  by_cases c3 : p1 = 2
  · have hsp := z_t c3 hsp
    refine lv_tableIn (tgt := 94) (off := 93) hx hb dX4_answer_1 (by rw [c3]; decide) (by rw [c3]; decide) (by rw [c3]; rfl) (by decide) ?_
    refine lv_aload_n hx hb dX4_answer_94 rfl (lv_at hl 0 rfl) ?_
    refine va_get (D := dD) (ci := 4) (v := .ref (q 1)) (C := RX4) (T := TX4) (N := 18) hx hb hts iX4 hown hK.1 hP 0 rfl rfl 2 (by decide) f12 (fun _ h9 => h9) rfl dX4_answer_95 ?_
    refine va_getN (D := dD) (ci := 0) (v := .int (gB 2)) (C := RX0) (T := TX0) (N := 3) hx hb hts iX0 hown hK.1 hP 1 rfl rfl 2 (by decide) f68 (fun _ h9 => h9) rfl dX4_answer_98 ?_
    obtain rfl := Option.some.inj hsp
    exact hret _ _ ls 101 dX4_answer_101 rfl hP hD hS
  have hsp := z_f c3 hsp
  by_cases c4 : p1 = 3
  · have hsp := z_t c4 hsp
    refine lv_tableIn (tgt := 102) (off := 101) hx hb dX4_answer_1 (by rw [c4]; decide) (by rw [c4]; decide) (by rw [c4]; rfl) (by decide) ?_
    refine lv_aload_n hx hb dX4_answer_102 rfl (lv_at hl 0 rfl) ?_
    obtain ⟨v5, hc6, hsp⟩ := z_b1 hsp
    refine z_callVi ⟨hx, hb, hml, hown, hts⟩ hK (c_X4_isWhole l dD cI cA q aR aD ca gM gB v5 hc6) (cwV 0 hts gX4_answer_X4_isWhole rfl rfl rfl (by decide +kernel) ⟨Nat.le_of_ble_eq_true rfl, Nat.le_of_ble_eq_true rfl⟩) (zJ.of (wc := [zM q aR aD ca gM, zB q gB]) (wc1 := [zM q aR aD ca gM, zB q gB]) (wr := [zI q gI]) (w2 := [zM q aR aD ca gM, zB q gB, zI q gI]) hP hD hS hA [0, 1] [2] [1, 2, 0] rfl rfl rfl rfl rfl rfl rfl) hS 0 4 rfl rfl rfl rfl hl.1 rfl (Nat.le_of_ble_eq_true rfl) dX4_answer_103 ⟨Nat.zero_le _, Nat.zero_le _⟩ (fun H locs hP hD hS => ?_)
    refine lv_if_eq (tgt := 113) hx hb dX4_answer_106 (by decide) (fun c7 => ?_) (fun c7 => ?_)
    · have hsp := z_t c7 hsp
      refine lv_iconst (v := 0) hx hb dX4_answer_113 (by decide) ?_
      obtain rfl := Option.some.inj hsp
      exact hret _ _ ls 114 dX4_answer_114 rfl hP hD hS
    · have hsp := z_f c7 hsp
      refine lv_iconst (v := 1) hx hb dX4_answer_109 (by decide) ?_
      refine lv_goto (tgt := 114) hx hb dX4_answer_110 (by decide) ?_
      obtain rfl := Option.some.inj hsp
      exact hret _ _ ls 114 dX4_answer_114 rfl hP hD hS
  have hsp := z_f c4 hsp
  by_cases c8 : p1 = 4
  · have hsp := z_t c8 hsp
    refine lv_tableIn (tgt := 115) (off := 114) hx hb dX4_answer_1 (by rw [c8]; decide) (by rw [c8]; decide) (by rw [c8]; rfl) (by decide) ?_
    refine lv_aload_n hx hb dX4_answer_115 rfl (lv_at hl 0 rfl) ?_
    refine va_get (D := dD) (ci := 4) (v := .int (gM 9)) (C := RX4) (T := TX4) (N := 18) hx hb hts iX4 hown hK.1 hP 0 rfl rfl 9 (by decide) f179 (fun _ h9 => h9) rfl dX4_answer_116 ?_
    obtain rfl := Option.some.inj hsp
    exact hret _ _ ls 119 dX4_answer_119 rfl hP hD hS
  have hsp := z_f c8 hsp
  by_cases c9 : p1 = 5
  · have hsp := z_t c9 hsp
    refine lv_tableIn (tgt := 120) (off := 119) hx hb dX4_answer_1 (by rw [c9]; decide) (by rw [c9]; decide) (by rw [c9]; rfl) (by decide) ?_
    refine lv_aload_n hx hb dX4_answer_120 rfl (lv_at hl 0 rfl) ?_
    refine va_get (D := dD) (ci := 4) (v := .ref (q 4)) (C := RX4) (T := TX4) (N := 18) hx hb hts iX4 hown hK.1 hP 0 rfl rfl 3 (by decide) f21 (fun _ h9 => h9) rfl dX4_answer_121 ?_
    refine va_getN (D := dD) (ci := 2) (v := .int (gI 0)) (C := RX2) (T := TX2) (N := 4) hx hb hts iX2 hown hK.1 hP 2 rfl rfl 0 (by decide) f75 (fun _ h9 => h9) rfl dX4_answer_124 ?_
    obtain rfl := Option.some.inj hsp
    exact hret _ _ ls 127 dX4_answer_127 rfl hP hD hS
  have hsp := z_f c9 hsp
  by_cases c10 : p1 = 6
  · have hsp := z_t c10 hsp
    refine lv_tableIn (tgt := 128) (off := 127) hx hb dX4_answer_1 (by rw [c10]; decide) (by rw [c10]; decide) (by rw [c10]; rfl) (by decide) ?_
    refine lv_aload_n hx hb dX4_answer_128 rfl (lv_at hl 0 rfl) ?_
    refine va_get (D := dD) (ci := 4) (v := .ref (q 4)) (C := RX4) (T := TX4) (N := 18) hx hb hts iX4 hown hK.1 hP 0 rfl rfl 3 (by decide) f21 (fun _ h9 => h9) rfl dX4_answer_129 ?_
    refine va_getN (D := dD) (ci := 2) (v := .int (gI 1)) (C := RX2) (T := TX2) (N := 4) hx hb hts iX2 hown hK.1 hP 2 rfl rfl 1 (by decide) f163 (fun _ h9 => h9) rfl dX4_answer_132 ?_
    obtain rfl := Option.some.inj hsp
    exact hret _ _ ls 135 dX4_answer_135 rfl hP hD hS
  have hsp := z_f c10 hsp
  by_cases c11 : p1 = 7
  · have hsp := z_t c11 hsp
    refine lv_tableIn (tgt := 136) (off := 135) hx hb dX4_answer_1 (by rw [c11]; decide) (by rw [c11]; decide) (by rw [c11]; rfl) (by decide) ?_
    refine lv_aload_n hx hb dX4_answer_136 rfl (lv_at hl 0 rfl) ?_
    refine va_get (D := dD) (ci := 4) (v := .ref (q 4)) (C := RX4) (T := TX4) (N := 18) hx hb hts iX4 hown hK.1 hP 0 rfl rfl 3 (by decide) f21 (fun _ h9 => h9) rfl dX4_answer_137 ?_
    refine va_getN (D := dD) (ci := 2) (v := .int (gI 2)) (C := RX2) (T := TX2) (N := 4) hx hb hts iX2 hown hK.1 hP 2 rfl rfl 2 (by decide) f113 (fun _ h9 => h9) rfl dX4_answer_140 ?_
    obtain rfl := Option.some.inj hsp
    exact hret _ _ ls 143 dX4_answer_143 rfl hP hD hS
  have hsp := z_f c11 hsp
  by_cases c12 : p1 = 8
  · have hsp := z_t c12 hsp
    refine lv_tableIn (tgt := 144) (off := 143) hx hb dX4_answer_1 (by rw [c12]; decide) (by rw [c12]; decide) (by rw [c12]; rfl) (by decide) ?_
    refine lv_aload_n hx hb dX4_answer_144 rfl (lv_at hl 0 rfl) ?_
    refine va_get (D := dD) (ci := 4) (v := .ref (q 4)) (C := RX4) (T := TX4) (N := 18) hx hb hts iX4 hown hK.1 hP 0 rfl rfl 3 (by decide) f21 (fun _ h9 => h9) rfl dX4_answer_145 ?_
    refine va_getN (D := dD) (ci := 2) (v := .int (gI 3)) (C := RX2) (T := TX2) (N := 4) hx hb hts iX2 hown hK.1 hP 2 rfl rfl 3 (by decide) f116 (fun _ h9 => h9) rfl dX4_answer_148 ?_
    obtain rfl := Option.some.inj hsp
    exact hret _ _ ls 151 dX4_answer_151 rfl hP hD hS
  have hsp := z_f c12 hsp
  by_cases c13 : p1 = 9
  · have hsp := z_t c13 hsp
    refine lv_tableIn (tgt := 152) (off := 151) hx hb dX4_answer_1 (by rw [c13]; decide) (by rw [c13]; decide) (by rw [c13]; rfl) (by decide) ?_
    refine lv_aload_n hx hb dX4_answer_152 rfl (lv_at hl 0 rfl) ?_
    refine va_get (D := dD) (ci := 4) (v := .int (gM 10)) (C := RX4) (T := TX4) (N := 18) hx hb hts iX4 hown hK.1 hP 0 rfl rfl 10 (by decide) f32 (fun _ h9 => h9) rfl dX4_answer_153 ?_
    obtain rfl := Option.some.inj hsp
    exact hret _ _ ls 156 dX4_answer_156 rfl hP hD hS
  have hsp := z_f c13 hsp
  by_cases c14 : p1 = 10
  · have hsp := z_t c14 hsp
    refine lv_tableIn (tgt := 157) (off := 156) hx hb dX4_answer_1 (by rw [c14]; decide) (by rw [c14]; decide) (by rw [c14]; rfl) (by decide) ?_
    refine lv_aload_n hx hb dX4_answer_157 rfl (lv_at hl 0 rfl) ?_
    refine va_get (D := dD) (ci := 4) (v := .int (gM 13)) (C := RX4) (T := TX4) (N := 18) hx hb hts iX4 hown hK.1 hP 0 rfl rfl 13 (by decide) f122 (fun _ h9 => h9) rfl dX4_answer_158 ?_
    obtain rfl := Option.some.inj hsp
    exact hret _ _ ls 161 dX4_answer_161 rfl hP hD hS
  have hsp := z_f c14 hsp
  by_cases c15 : p1 = 11
  · have hsp := z_t c15 hsp
    refine lv_tableIn (tgt := 162) (off := 161) hx hb dX4_answer_1 (by rw [c15]; decide) (by rw [c15]; decide) (by rw [c15]; rfl) (by decide) ?_
    refine lv_aload_n hx hb dX4_answer_162 rfl (lv_at hl 0 rfl) ?_
    refine va_get (D := dD) (ci := 4) (v := .int (gM 14)) (C := RX4) (T := TX4) (N := 18) hx hb hts iX4 hown hK.1 hP 0 rfl rfl 14 (by decide) f110 (fun _ h9 => h9) rfl dX4_answer_163 ?_
    obtain rfl := Option.some.inj hsp
    exact hret _ _ ls 166 dX4_answer_166 rfl hP hD hS
  have hsp := z_f c15 hsp
  by_cases c16 : p1 = 12
  · have hsp := z_t c16 hsp
    refine lv_tableIn (tgt := 167) (off := 166) hx hb dX4_answer_1 (by rw [c16]; decide) (by rw [c16]; decide) (by rw [c16]; rfl) (by decide) ?_
    refine lv_aload_n hx hb dX4_answer_167 rfl (lv_at hl 0 rfl) ?_
    refine va_get (D := dD) (ci := 4) (v := .int (gM 15)) (C := RX4) (T := TX4) (N := 18) hx hb hts iX4 hown hK.1 hP 0 rfl rfl 15 (by decide) f182 (fun _ h9 => h9) rfl dX4_answer_168 ?_
    obtain rfl := Option.some.inj hsp
    exact hret _ _ ls 171 dX4_answer_171 rfl hP hD hS
  have hsp := z_f c16 hsp
  by_cases c17 : p1 = 13
  · have hsp := z_t c17 hsp
    refine lv_tableIn (tgt := 172) (off := 171) hx hb dX4_answer_1 (by rw [c17]; decide) (by rw [c17]; decide) (by rw [c17]; rfl) (by decide) ?_
    refine lv_aload_n hx hb dX4_answer_172 rfl (lv_at hl 0 rfl) ?_
    refine va_get (D := dD) (ci := 4) (v := .int (gM 16)) (C := RX4) (T := TX4) (N := 18) hx hb hts iX4 hown hK.1 hP 0 rfl rfl 16 (by decide) f185 (fun _ h9 => h9) rfl dX4_answer_173 ?_
    obtain rfl := Option.some.inj hsp
    exact hret _ _ ls 176 dX4_answer_176 rfl hP hD hS
  have hsp := z_f c17 hsp
  by_cases c18 : p1 = 14
  · have hsp := z_t c18 hsp
    refine lv_tableIn (tgt := 177) (off := 176) hx hb dX4_answer_1 (by rw [c18]; decide) (by rw [c18]; decide) (by rw [c18]; rfl) (by decide) ?_
    refine lv_aload_n hx hb dX4_answer_177 rfl (lv_at hl 0 rfl) ?_
    refine va_get (D := dD) (ci := 4) (v := .int (gM 17)) (C := RX4) (T := TX4) (N := 18) hx hb hts iX4 hown hK.1 hP 0 rfl rfl 17 (by decide) f160 (fun _ h9 => h9) rfl dX4_answer_178 ?_
    obtain rfl := Option.some.inj hsp
    exact hret _ _ ls 181 dX4_answer_181 rfl hP hD hS
  have hsp := z_f c18 hsp
  by_cases c19 : p1 = 15
  · have hsp := z_t c19 hsp
    refine lv_tableIn (tgt := 182) (off := 181) hx hb dX4_answer_1 (by rw [c19]; decide) (by rw [c19]; decide) (by rw [c19]; rfl) (by decide) ?_
    refine lv_aload_n hx hb dX4_answer_182 rfl (lv_at hl 0 rfl) ?_
    refine va_get (D := dD) (ci := 4) (v := .int (gM 11)) (C := RX4) (T := TX4) (N := 18) hx hb hts iX4 hown hK.1 hP 0 rfl rfl 11 (by decide) f87 (fun _ h9 => h9) rfl dX4_answer_183 ?_
    obtain rfl := Option.some.inj hsp
    exact hret _ _ ls 186 dX4_answer_186 rfl hP hD hS
  have hsp := z_f c19 hsp
  by_cases c20 : p1 = 16
  · have hsp := z_t c20 hsp
    refine lv_tableIn (tgt := 187) (off := 186) hx hb dX4_answer_1 (by rw [c20]; decide) (by rw [c20]; decide) (by rw [c20]; rfl) (by decide) ?_
    refine lv_aload_n hx hb dX4_answer_187 rfl (lv_at hl 0 rfl) ?_
    refine va_get (D := dD) (ci := 4) (v := .int (gM 12)) (C := RX4) (T := TX4) (N := 18) hx hb hts iX4 hown hK.1 hP 0 rfl rfl 12 (by decide) f90 (fun _ h9 => h9) rfl dX4_answer_188 ?_
    obtain rfl := Option.some.inj hsp
    exact hret _ _ ls 191 dX4_answer_191 rfl hP hD hS
  have hsp := z_f c20 hsp
  refine lv_tableOut (tgt := 192) hx hb dX4_answer_1 (by have g0 := lv_neT (a := 0) c1 rfl; have g1 := lv_neT (a := 1) c2 rfl; have g2 := lv_neT (a := 2) c3 rfl; have g3 := lv_neT (a := 3) c4 rfl; have g4 := lv_neT (a := 4) c8 rfl; have g5 := lv_neT (a := 5) c9 rfl; have g6 := lv_neT (a := 6) c10 rfl; have g7 := lv_neT (a := 7) c11 rfl; have g8 := lv_neT (a := 8) c12 rfl; have g9 := lv_neT (a := 9) c13 rfl; have g10 := lv_neT (a := 10) c14 rfl; have g11 := lv_neT (a := 11) c15 rfl; have g12 := lv_neT (a := 12) c16 rfl; have g13 := lv_neT (a := 13) c17 rfl; have g14 := lv_neT (a := 14) c18 rfl; have g15 := lv_neT (a := 15) c19 rfl; have g16 := lv_neT (a := 16) c20 rfl; omega) (by decide) ?_
  refine lv_iconst (v := (-1)) hx hb dX4_answer_192 (by decide) ?_
  obtain rfl := Option.some.inj hsp
  exact hret _ _ ls 193 dX4_answer_193 rfl hP hD hS
