def s_X6_hears (g : zF) (fO : zF) (to : zF) (gR : zF) (gD : zF) (S : Nat → Nat → zF) (C : Nat → Option Nat) (n : Nat) (p1 : Int32) (p2 : Int32) (p3 : Int32) : Option (Int32 × (zF)) := (zat n g (p1) (some (0, fO)) fun (j2 : Nat) => (zat n g (p2) (some (0, fO)) fun (j4 : Nat) => (if p1 = p2 then some (0, fO) else zb1 (s_X6_within (p3) ((-1)) (100)) fun (v6 : Int32) => (if v6 = 0 then some (0, fO) else zb1 (s_X6_pairOf g fO (p1) (p2)) fun (v9 : Int32) => (if v9 = (-1) then some (0, fO) else if v9 < 0 ∨ 144 ≤ (v9).toNatClampNeg then none else zl (upd fO (v9).toNatClampNeg (p3)) fun (fO13 : zF) => some (1, fO13))))))
abbrev rm_X6_hears : Room := { frames := 2, cells := 0, slots := 0, locals := 45 }
set_option maxHeartbeats 4000000 in
set_option maxRecDepth 100000 in
theorem c_X6_hears (l : Launch) (dD : va_G) (cI cA : ClassId) (q : Nat → Nat) (qq : Nat → Nat → Nat) (n : Nat) (hn12 : n ≤ 12) (g : zF) (fO : zF) (to : zF) (gR : zF) (gD : zF) (S : Nat → Nat → zF) (C : Nat → Option Nat) (p1 : Int32) (p2 : Int32) (p3 : Int32) (rv : Int32) (r_fO : zF) (hsp : s_X6_hears g fO to gR gD S C n p1 p2 p3 = some (rv, r_fO)) : zMi l yX6_hears wsX6_hears rm_X6_hears dD cI cA [.ref (q 0), .int p1, .int p2, .int p3] ([zX q g, zP cA (q 3) (zfm qq n), zA cI (q 4) 144 fO, zA cI (q 5) 12 to, zR (q 2) gR, zD (q 1) gD] ++ zPool cI q qq n S C) ([zX q g, zP cA (q 3) (zfm qq n), zA cI (q 4) 144 r_fO, zA cI (q 5) 12 to, zR (q 2) gR, zD (q 1) gD] ++ zPool cI q qq n S C) rv := by
  refine zMi_of (cc := cX6_hears) (maxL := 5) (by decide) rfl (Nat.le_of_ble_eq_true rfl) ?_
  intro p e s m args below meth c A Q ls hx hb hml hown hts hK hA hP hD hl hret
  have hown : s.vm.findClass RX6 = some m.cls := hown
  have iX6 : ∀ w ∈ wsX60, w ∈ wsX6_hears := by decide +kernel
  have f29 := hts (.fieldLink RX6 29 "MeshField" "lossOdds" "[I") (by decide +kernel)
  have hS : va_S A s.heap s.heap [] := va_S.rf
  have hl : lv_has ls 5 [(0, .ref (q 0)), (1, .int p1), (2, .int p2), (3, .int p3)] := hl
  unfold s_X6_hears at hsp
  refine lv_aload_n hx hb dX6_hears_0 rfl (lv_at hl 0 rfl) ?_
  refine lv_iload_n hx hb dX6_hears_1 rfl (lv_at hl 1 rfl) ?_
  rcases z_at (qq := qq) hn12 hsp with ⟨hc1, hsp⟩ | ⟨j2, hj2, ej2, hc1, hsp⟩
  · refine z_callVq ⟨hx, hb, hml, hown, hts⟩ hK (c_X6_machineAt l dD cI cA q g (zfm qq n) (p1) _ hc1) (cwV 1 hts gX6_hears_X6_machineAt rfl rfl rfl (by decide +kernel) ⟨Nat.le_of_ble_eq_true rfl, Nat.le_of_ble_eq_true rfl⟩) (zJ.ofP (X := [zX q g, zP cA (q 3) (zfm qq n), zA cI (q 4) 144 fO, zA cI (q 5) 12 to, zR (q 2) gR, zD (q 1) gD]) (wc := [zX q g, zP cA (q 3) (zfm qq n)]) (wc1 := [zX q g, zP cA (q 3) (zfm qq n)]) (wr := [zA cI (q 4) 144 fO, zA cI (q 5) 12 to, zR (q 2) gR, zD (q 1) gD]) (w2 := [zX q g, zP cA (q 3) (zfm qq n), zA cI (q 4) 144 fO, zA cI (q 5) 12 to, zR (q 2) gR, zD (q 1) gD]) hP hD hS hA [0, 1] [2, 3, 4, 5] [4, 5, 0, 1, 2, 3] rfl rfl rfl rfl rfl rfl rfl) hS 0 6 rfl rfl rfl rfl hl.1 rfl (Nat.le_of_ble_eq_true rfl) dX6_hears_2 ⟨Nat.zero_le _, Nat.zero_le _⟩ (fun H locs hP hD hS => ?_)
    refine z_topN ?_
    refine lv_ifnullN (tgt := 31) hx hb dX6_hears_5 (by decide) ?_
    refine lv_iconst (v := 0) hx hb dX6_hears_31 (by decide) ?_
    obtain ⟨rfl, rfl⟩ := z_i2 hsp
    exact hret _ _ ls 32 dX6_hears_32 rfl hP hD hS
  · refine z_callVq ⟨hx, hb, hml, hown, hts⟩ hK (c_X6_machineAt l dD cI cA q g (zfm qq n) (p1) _ hc1) (cwV 1 hts gX6_hears_X6_machineAt rfl rfl rfl (by decide +kernel) ⟨Nat.le_of_ble_eq_true rfl, Nat.le_of_ble_eq_true rfl⟩) (zJ.ofP (X := [zX q g, zP cA (q 3) (zfm qq n), zA cI (q 4) 144 fO, zA cI (q 5) 12 to, zR (q 2) gR, zD (q 1) gD]) (wc := [zX q g, zP cA (q 3) (zfm qq n)]) (wc1 := [zX q g, zP cA (q 3) (zfm qq n)]) (wr := [zA cI (q 4) 144 fO, zA cI (q 5) 12 to, zR (q 2) gR, zD (q 1) gD]) (w2 := [zX q g, zP cA (q 3) (zfm qq n), zA cI (q 4) 144 fO, zA cI (q 5) 12 to, zR (q 2) gR, zD (q 1) gD]) hP hD hS hA [0, 1] [2, 3, 4, 5] [4, 5, 0, 1, 2, 3] rfl rfl rfl rfl rfl rfl rfl) hS 0 6 rfl rfl rfl rfl hl.1 rfl (Nat.le_of_ble_eq_true rfl) dX6_hears_2 ⟨Nat.zero_le _, Nat.zero_le _⟩ (fun H locs hP hD hS => ?_)
    refine z_topR ?_
    refine lv_ifnull hx hb dX6_hears_5 ?_
    refine lv_aload_n hx hb dX6_hears_8 rfl (lv_at hl 0 rfl) ?_
    refine lv_iload_n hx hb dX6_hears_9 rfl (lv_at hl 2 rfl) ?_
    rcases z_at (qq := qq) hn12 hsp with ⟨hc3, hsp⟩ | ⟨j4, hj4, ej4, hc3, hsp⟩
    · refine z_callVq ⟨hx, hb, hml, hown, hts⟩ hK (c_X6_machineAt l dD cI cA q g (zfm qq n) (p2) _ hc3) (cwV 1 hts gX6_hears_X6_machineAt rfl rfl rfl (by decide +kernel) ⟨Nat.le_of_ble_eq_true rfl, Nat.le_of_ble_eq_true rfl⟩) (zJ.ofP (X := [zX q g, zP cA (q 3) (zfm qq n), zA cI (q 4) 144 fO, zA cI (q 5) 12 to, zR (q 2) gR, zD (q 1) gD]) (wc := [zX q g, zP cA (q 3) (zfm qq n)]) (wc1 := [zX q g, zP cA (q 3) (zfm qq n)]) (wr := [zA cI (q 4) 144 fO, zA cI (q 5) 12 to, zR (q 2) gR, zD (q 1) gD]) (w2 := [zX q g, zP cA (q 3) (zfm qq n), zA cI (q 4) 144 fO, zA cI (q 5) 12 to, zR (q 2) gR, zD (q 1) gD]) hP hD hS hA [0, 1] [2, 3, 4, 5] [4, 5, 0, 1, 2, 3] rfl rfl rfl rfl rfl rfl rfl) hS 0 6 rfl rfl rfl rfl hl.1 rfl (Nat.le_of_ble_eq_true rfl) dX6_hears_10 ⟨Nat.zero_le _, Nat.zero_le _⟩ (fun H locs hP hD hS => ?_)
      refine z_topN ?_
      refine lv_ifnullN (tgt := 31) hx hb dX6_hears_13 (by decide) ?_
      refine lv_iconst (v := 0) hx hb dX6_hears_31 (by decide) ?_
      obtain ⟨rfl, rfl⟩ := z_i2 hsp
      exact hret _ _ ls 32 dX6_hears_32 rfl hP hD hS
    · refine z_callVq ⟨hx, hb, hml, hown, hts⟩ hK (c_X6_machineAt l dD cI cA q g (zfm qq n) (p2) _ hc3) (cwV 1 hts gX6_hears_X6_machineAt rfl rfl rfl (by decide +kernel) ⟨Nat.le_of_ble_eq_true rfl, Nat.le_of_ble_eq_true rfl⟩) (zJ.ofP (X := [zX q g, zP cA (q 3) (zfm qq n), zA cI (q 4) 144 fO, zA cI (q 5) 12 to, zR (q 2) gR, zD (q 1) gD]) (wc := [zX q g, zP cA (q 3) (zfm qq n)]) (wc1 := [zX q g, zP cA (q 3) (zfm qq n)]) (wr := [zA cI (q 4) 144 fO, zA cI (q 5) 12 to, zR (q 2) gR, zD (q 1) gD]) (w2 := [zX q g, zP cA (q 3) (zfm qq n), zA cI (q 4) 144 fO, zA cI (q 5) 12 to, zR (q 2) gR, zD (q 1) gD]) hP hD hS hA [0, 1] [2, 3, 4, 5] [4, 5, 0, 1, 2, 3] rfl rfl rfl rfl rfl rfl rfl) hS 0 6 rfl rfl rfl rfl hl.1 rfl (Nat.le_of_ble_eq_true rfl) dX6_hears_10 ⟨Nat.zero_le _, Nat.zero_le _⟩ (fun H locs hP hD hS => ?_)
      refine z_topR ?_
      refine lv_ifnull hx hb dX6_hears_13 ?_
      refine lv_iload_n hx hb dX6_hears_16 rfl (lv_at hl 1 rfl) ?_
      refine lv_iload_n hx hb dX6_hears_17 rfl (lv_at hl 2 rfl) ?_
      refine lv_icmp_eq (tgt := 31) hx hb dX6_hears_18 (by decide) (fun c5 => ?_) (fun c5 => ?_)
      · have hsp := z_t c5 hsp
        refine lv_iconst (v := 0) hx hb dX6_hears_31 (by decide) ?_
        obtain ⟨rfl, rfl⟩ := z_i2 hsp
        exact hret _ _ ls 32 dX6_hears_32 rfl hP hD hS
      · have hsp := z_f c5 hsp
        refine lv_iload_n hx hb dX6_hears_21 rfl (lv_at hl 3 rfl) ?_
        refine lv_iconst (v := (-1)) hx hb dX6_hears_22 (by decide) ?_
        refine lv_bipush (v := 100) hx hb dX6_hears_23 (by decide) ?_
        obtain ⟨v6, hc7, hsp⟩ := z_b1 hsp
        refine z_callSi ⟨hx, hb, hml, hown, hts⟩ hK (c_X6_within l dD cI cA (p3) ((-1)) (100) v6 hc7) (va_cwS 3 hts gX6_hears_X6_within rfl rfl rfl (by decide +kernel) ⟨Nat.le_of_ble_eq_true rfl, Nat.le_of_ble_eq_true rfl⟩) (zJ.ofP (X := [zX q g, zP cA (q 3) (zfm qq n), zA cI (q 4) 144 fO, zA cI (q 5) 12 to, zR (q 2) gR, zD (q 1) gD]) (wc := []) (wc1 := []) (wr := [zX q g, zP cA (q 3) (zfm qq n), zA cI (q 4) 144 fO, zA cI (q 5) 12 to, zR (q 2) gR, zD (q 1) gD]) (w2 := [zX q g, zP cA (q 3) (zfm qq n), zA cI (q 4) 144 fO, zA cI (q 5) 12 to, zR (q 2) gR, zD (q 1) gD]) hP hD hS hA [] [0, 1, 2, 3, 4, 5] [0, 1, 2, 3, 4, 5] rfl rfl rfl rfl rfl rfl rfl) hS rfl hl.1 rfl (Nat.le_of_ble_eq_true rfl) dX6_hears_25 ⟨Nat.zero_le _, Nat.zero_le _⟩ (fun H locs hP hD hS => ?_)
        refine lv_if_ne (tgt := 33) hx hb dX6_hears_28 (by decide) (fun c8 => ?_) (fun c8 => ?_)
        · have hsp := z_f c8 hsp
          refine lv_aload_n hx hb dX6_hears_33 rfl (lv_at hl 0 rfl) ?_
          refine lv_iload_n hx hb dX6_hears_34 rfl (lv_at hl 1 rfl) ?_
          refine lv_iload_n hx hb dX6_hears_35 rfl (lv_at hl 2 rfl) ?_
          obtain ⟨v9, hc10, hsp⟩ := z_b1 hsp
          refine z_callVi ⟨hx, hb, hml, hown, hts⟩ hK (c_X6_pairOf l dD cI cA q g fO (p1) (p2) v9 hc10) (cwV 2 hts gX6_hears_X6_pairOf rfl rfl rfl (by decide +kernel) ⟨Nat.le_of_ble_eq_true rfl, Nat.le_of_ble_eq_true rfl⟩) (zJ.ofP (X := [zX q g, zP cA (q 3) (zfm qq n), zA cI (q 4) 144 fO, zA cI (q 5) 12 to, zR (q 2) gR, zD (q 1) gD]) (wc := [zX q g, zA cI (q 4) 144 fO]) (wc1 := [zX q g, zA cI (q 4) 144 fO]) (wr := [zP cA (q 3) (zfm qq n), zA cI (q 5) 12 to, zR (q 2) gR, zD (q 1) gD]) (w2 := [zX q g, zP cA (q 3) (zfm qq n), zA cI (q 4) 144 fO, zA cI (q 5) 12 to, zR (q 2) gR, zD (q 1) gD]) hP hD hS hA [0, 2] [1, 3, 4, 5] [4, 0, 5, 1, 2, 3] rfl rfl rfl rfl rfl rfl rfl) hS 0 6 rfl rfl rfl rfl hl.1 rfl (Nat.le_of_ble_eq_true rfl) dX6_hears_36 ⟨Nat.zero_le _, Nat.zero_le _⟩ (fun H locs hP hD hS => ?_)
          refine lv_istore (lv' := [(4, .int v9), (0, .ref (q 0)), (1, .int p1), (2, .int p2), (3, .int p3)]) hx hb dX6_hears_39 hl (by decide) rfl (fun ls hl => ?_)
          refine lv_iload hx hb dX6_hears_41 (lv_at hl 0 rfl) ?_
          refine lv_iconst (v := (-1)) hx hb dX6_hears_43 (by decide) ?_
          refine lv_icmp_ne (tgt := 49) hx hb dX6_hears_44 (by decide) (fun c11 => ?_) (fun c11 => ?_)
          · have hsp := z_f c11 hsp
            refine lv_aload_n hx hb dX6_hears_49 rfl (lv_at hl 1 rfl) ?_
            refine va_get (D := dD) (ci := 6) (v := .ref (q 4)) (C := RX6) (T := TX6) (N := 10) hx hb hts iX6 hown hK.1 hP 0 rfl rfl 3 (by decide) f29 (fun _ h9 => h9) rfl dX6_hears_50 ?_
            refine lv_iload hx hb dX6_hears_53 (lv_at hl 0 rfl) ?_
            refine lv_iload_n hx hb dX6_hears_55 rfl (lv_at hl 4 rfl) ?_
            obtain ⟨h12, hsp⟩ := z_in hsp
            refine va_iast hx hb hK.1 hP hD hS 2 0 rfl rfl h12 dX6_hears_56 (fun H locs hP hD hS => ?_)
            obtain ⟨fO13, efO13, hsp⟩ := z_lt hsp
            have hP : va_P dD vwCl ([zX q g, zP cA (q 3) (zfm qq n), zA cI (q 4) 144 fO13, zA cI (q 5) 12 to, zR (q 2) gR, zD (q 1) gD] ++ zPool cI q qq n S C) H := by rw [efO13]; exact hP
            have hD : va_D A ([zX q g, zP cA (q 3) (zfm qq n), zA cI (q 4) 144 fO13, zA cI (q 5) 12 to, zR (q 2) gR, zD (q 1) gD] ++ zPool cI q qq n S C) := by rw [efO13]; exact hD
            refine lv_iconst (v := 1) hx hb dX6_hears_57 (by decide) ?_
            obtain ⟨rfl, rfl⟩ := z_i2 hsp
            exact hret _ _ ls 58 dX6_hears_58 rfl hP hD hS
          · have hsp := z_t c11 hsp
            refine lv_iconst (v := 0) hx hb dX6_hears_47 (by decide) ?_
            obtain ⟨rfl, rfl⟩ := z_i2 hsp
            exact hret _ _ ls 48 dX6_hears_48 rfl hP hD hS
        · have hsp := z_t c8 hsp
          refine lv_iconst (v := 0) hx hb dX6_hears_31 (by decide) ?_
          obtain ⟨rfl, rfl⟩ := z_i2 hsp
          exact hret _ _ ls 32 dX6_hears_32 rfl hP hD hS
def s_X6_load (g : zF) (fO : zF) (to : zF) (gR : zF) (gD : zF) (S : Nat → Nat → zF) (C : Nat → Option Nat) (n : Nat) (p1 : Int32) (p2 : Int32) : Option (Int32 × (zF) × (zF) × (Nat → Nat → zF)) := (zat n g (p1) (some ((-1), g, gD, S)) fun (j2 : Nat) => (if (g 6) = 0 then some ((-1), g, gD, S) else zb1 (s_X6_within (p2) (1) (9999)) fun (v4 : Int32) => (if v4 = 0 then some ((-1), g, gD, S) else (if ((S j2 0) 6) < p2 then zb4 (s_X4_keepWhole (S j2 0) (S j2 1) (S j2 2) (S j2 3) to (p2) ((g 6))) fun (gM8 : zF) (gB9 : zF) (mk10 : zF) (mx11 : zF) => zb2 (s_X4_stir gM8 (S j2 4) gR gD ((g 7))) fun (gI13 : zF) (gD14 : zF) => zl (va_up g 6 (0)) fun (g16 : zF) => (if p2 ≤ (g16 8) then zl (va_up S j2 (zs6 gM8 gB9 mk10 mx11 gI13 (S j2 5))) fun (S18 : Nat → Nat → zF) => some ((gB9 2), g16, gD14, S18) else zl (va_up g16 8 (p2)) fun (g19 : zF) => zl (va_up g19 9 ((-1))) fun (g20 : zF) => zl (va_up S j2 (zs6 gM8 gB9 mk10 mx11 gI13 (S j2 5))) fun (S21 : Nat → Nat → zF) => some ((gB9 2), g20, gD14, S21)) else some ((-1), g, gD, S)))))
abbrev rm_X6_load : Room := { frames := 4, cells := 0, slots := 0, locals := 92 }
set_option maxHeartbeats 4000000 in
set_option maxRecDepth 100000 in
theorem c_X6_load (l : Launch) (dD : va_G) (cI cA : ClassId) (q : Nat → Nat) (qq : Nat → Nat → Nat) (n : Nat) (hn12 : n ≤ 12) (g : zF) (fO : zF) (to : zF) (gR : zF) (gD : zF) (S : Nat → Nat → zF) (C : Nat → Option Nat) (p1 : Int32) (p2 : Int32) (rv : Int32) (r_g : zF) (r_gD : zF) (r_S : Nat → Nat → zF) (hsp : s_X6_load g fO to gR gD S C n p1 p2 = some (rv, r_g, r_gD, r_S)) : zMi l yX6_load wsX6_load rm_X6_load dD cI cA [.ref (q 0), .int p1, .int p2] ([zX q g, zP cA (q 3) (zfm qq n), zA cI (q 4) 144 fO, zA cI (q 5) 12 to, zR (q 2) gR, zD (q 1) gD] ++ zPool cI q qq n S C) ([zX q r_g, zP cA (q 3) (zfm qq n), zA cI (q 4) 144 fO, zA cI (q 5) 12 to, zR (q 2) gR, zD (q 1) r_gD] ++ zPool cI q qq n r_S C) rv := by
  refine zMi_of (cc := cX6_load) (maxL := 4) (by decide) rfl (Nat.le_of_ble_eq_true rfl) ?_
  intro p e s m args below meth c A Q ls hx hb hml hown hts hK hA hP hD hl hret
  have hown : s.vm.findClass RX6 = some m.cls := hown
  have iX6 : ∀ w ∈ wsX60, w ∈ wsX6_load := by decide +kernel
  have iX4 : ∀ w ∈ wsX40, w ∈ wsX6_load := by decide +kernel
  have iX0 : ∀ w ∈ wsX00, w ∈ wsX6_load := by decide +kernel
  have f92 := hts (.fieldLink RX6 92 "MeshField" "toldCount" "I") (by decide +kernel)
  have f95 : (Cond.fieldLinkNest RX6 95 "MeshField$Machine" "number" "I" "MeshField").before args s = true := hK.nw (by decide +kernel)
  have f39 := hts (.fieldLink RX6 39 "MeshField" "toldPieces" "[I") (by decide +kernel)
  have f75 := hts (.fieldLink RX6 75 "MeshField" "now" "I") (by decide +kernel)
  have f106 := hts (.fieldLink RX6 106 "MeshField" "greatestNumber" "I") (by decide +kernel)
  have f109 : (Cond.fieldLinkNest RX6 109 "MeshField$Machine" "basis" "LMeshField$Basis;" "MeshField").before args s = true := hK.nw (by decide +kernel)
  have f113 : (Cond.fieldLinkNest RX6 113 "MeshField$Basis" "rank" "I" "MeshField").before args s = true := hK.nw (by decide +kernel)
  have f42 := hts (.fieldLink RX6 42 "MeshField" "allWholeAt" "I") (by decide +kernel)
  have hS : va_S A s.heap s.heap [] := va_S.rf
  have hl : lv_has ls 4 [(0, .ref (q 0)), (1, .int p1), (2, .int p2)] := hl
  unfold s_X6_load at hsp
  refine lv_aload_n hx hb dX6_load_0 rfl (lv_at hl 0 rfl) ?_
  refine lv_iload_n hx hb dX6_load_1 rfl (lv_at hl 1 rfl) ?_
  rcases z_at (qq := qq) hn12 hsp with ⟨hc1, hsp⟩ | ⟨j2, hj2, ej2, hc1, hsp⟩
  · refine z_callVq ⟨hx, hb, hml, hown, hts⟩ hK (c_X6_machineAt l dD cI cA q g (zfm qq n) (p1) _ hc1) (cwV 1 hts gX6_load_X6_machineAt rfl rfl rfl (by decide +kernel) ⟨Nat.le_of_ble_eq_true rfl, Nat.le_of_ble_eq_true rfl⟩) (zJ.ofP (X := [zX q g, zP cA (q 3) (zfm qq n), zA cI (q 4) 144 fO, zA cI (q 5) 12 to, zR (q 2) gR, zD (q 1) gD]) (wc := [zX q g, zP cA (q 3) (zfm qq n)]) (wc1 := [zX q g, zP cA (q 3) (zfm qq n)]) (wr := [zA cI (q 4) 144 fO, zA cI (q 5) 12 to, zR (q 2) gR, zD (q 1) gD]) (w2 := [zX q g, zP cA (q 3) (zfm qq n), zA cI (q 4) 144 fO, zA cI (q 5) 12 to, zR (q 2) gR, zD (q 1) gD]) hP hD hS hA [0, 1] [2, 3, 4, 5] [4, 5, 0, 1, 2, 3] rfl rfl rfl rfl rfl rfl rfl) hS 0 6 rfl rfl rfl rfl hl.1 rfl (Nat.le_of_ble_eq_true rfl) dX6_load_2 ⟨Nat.zero_le _, Nat.zero_le _⟩ (fun H locs hP hD hS => ?_)
    refine z_topN ?_
    refine lv_astore_nN (lv' := [(3, .null), (0, .ref (q 0)), (1, .int p1), (2, .int p2)]) hx hb dX6_load_5 rfl hl (by decide) rfl (fun ls hl => ?_)
    refine lv_aload_nN hx hb dX6_load_6 rfl (lv_at hl 0 rfl) ?_
    refine lv_ifnullN (tgt := 36) hx hb dX6_load_7 (by decide) ?_
    refine lv_iconst (v := (-1)) hx hb dX6_load_36 (by decide) ?_
    obtain ⟨rfl, rfl, rfl, rfl⟩ := z_i4 hsp
    exact hret _ _ ls 37 dX6_load_37 rfl hP hD hS
  · refine z_callVq ⟨hx, hb, hml, hown, hts⟩ hK (c_X6_machineAt l dD cI cA q g (zfm qq n) (p1) _ hc1) (cwV 1 hts gX6_load_X6_machineAt rfl rfl rfl (by decide +kernel) ⟨Nat.le_of_ble_eq_true rfl, Nat.le_of_ble_eq_true rfl⟩) (zJ.ofP (X := [zX q g, zP cA (q 3) (zfm qq n), zA cI (q 4) 144 fO, zA cI (q 5) 12 to, zR (q 2) gR, zD (q 1) gD]) (wc := [zX q g, zP cA (q 3) (zfm qq n)]) (wc1 := [zX q g, zP cA (q 3) (zfm qq n)]) (wr := [zA cI (q 4) 144 fO, zA cI (q 5) 12 to, zR (q 2) gR, zD (q 1) gD]) (w2 := [zX q g, zP cA (q 3) (zfm qq n), zA cI (q 4) 144 fO, zA cI (q 5) 12 to, zR (q 2) gR, zD (q 1) gD]) hP hD hS hA [0, 1] [2, 3, 4, 5] [4, 5, 0, 1, 2, 3] rfl rfl rfl rfl rfl rfl rfl) hS 0 6 rfl rfl rfl rfl hl.1 rfl (Nat.le_of_ble_eq_true rfl) dX6_load_2 ⟨Nat.zero_le _, Nat.zero_le _⟩ (fun H locs hP hD hS => ?_)
    refine z_topR ?_
    refine lv_astore_n (lv' := [(3, .ref (qq j2 0)), (0, .ref (q 0)), (1, .int p1), (2, .int p2)]) hx hb dX6_load_5 rfl hl (by decide) rfl (fun ls hl => ?_)
    refine lv_aload_n hx hb dX6_load_6 rfl (lv_at hl 0 rfl) ?_
    refine lv_ifnull hx hb dX6_load_7 ?_
    refine lv_aload_n hx hb dX6_load_10 rfl (lv_at hl 1 rfl) ?_
    refine va_get (D := dD) (ci := 6) (v := .int (g 6)) (C := RX6) (T := TX6) (N := 10) hx hb hts iX6 hown hK.1 hP 0 rfl rfl 6 (by decide) f92 (fun _ h9 => h9) rfl dX6_load_11 ?_
    refine lv_if_eq (tgt := 36) hx hb dX6_load_14 (by decide) (fun c3 => ?_) (fun c3 => ?_)
    · have hsp := z_t c3 hsp
      refine lv_iconst (v := (-1)) hx hb dX6_load_36 (by decide) ?_
      obtain ⟨rfl, rfl, rfl, rfl⟩ := z_i4 hsp
      exact hret _ _ ls 37 dX6_load_37 rfl hP hD hS
    · have hsp := z_f c3 hsp
      refine lv_iload_n hx hb dX6_load_17 rfl (lv_at hl 3 rfl) ?_
      refine lv_iconst (v := 1) hx hb dX6_load_18 (by decide) ?_
      refine lv_sipush (v := 9999) hx hb dX6_load_19 (by decide) ?_
      obtain ⟨v4, hc5, hsp⟩ := z_b1 hsp
      refine z_callSi ⟨hx, hb, hml, hown, hts⟩ hK (c_X6_within l dD cI cA (p2) (1) (9999) v4 hc5) (va_cwS 3 hts gX6_load_X6_within rfl rfl rfl (by decide +kernel) ⟨Nat.le_of_ble_eq_true rfl, Nat.le_of_ble_eq_true rfl⟩) (zJ.ofP (X := [zX q g, zP cA (q 3) (zfm qq n), zA cI (q 4) 144 fO, zA cI (q 5) 12 to, zR (q 2) gR, zD (q 1) gD]) (wc := []) (wc1 := []) (wr := [zX q g, zP cA (q 3) (zfm qq n), zA cI (q 4) 144 fO, zA cI (q 5) 12 to, zR (q 2) gR, zD (q 1) gD]) (w2 := [zX q g, zP cA (q 3) (zfm qq n), zA cI (q 4) 144 fO, zA cI (q 5) 12 to, zR (q 2) gR, zD (q 1) gD]) hP hD hS hA [] [0, 1, 2, 3, 4, 5] [0, 1, 2, 3, 4, 5] rfl rfl rfl rfl rfl rfl rfl) hS rfl hl.1 rfl (Nat.le_of_ble_eq_true rfl) dX6_load_22 ⟨Nat.zero_le _, Nat.zero_le _⟩ (fun H locs hP hD hS => ?_)
      refine lv_if_eq (tgt := 36) hx hb dX6_load_25 (by decide) (fun c6 => ?_) (fun c6 => ?_)
      · have hsp := z_t c6 hsp
        refine lv_iconst (v := (-1)) hx hb dX6_load_36 (by decide) ?_
        obtain ⟨rfl, rfl, rfl, rfl⟩ := z_i4 hsp
        exact hret _ _ ls 37 dX6_load_37 rfl hP hD hS
      · have hsp := z_f c6 hsp
        refine lv_iload_n hx hb dX6_load_28 rfl (lv_at hl 3 rfl) ?_
        refine lv_aload_n hx hb dX6_load_29 rfl (lv_at hl 0 rfl) ?_
        obtain ⟨hP, hD⟩ := z_foc (fx := [zX q g, zP cA (q 3) (zfm qq n), zA cI (q 4) 144 fO, zA cI (q 5) 12 to, zR (q 2) gR, zD (q 1) gD]) hj2 hP hD
        have hP : va_P dD vwCl ([zX q g, zP cA (q 3) (zfm qq n), zA cI (q 4) 144 fO, zA cI (q 5) 12 to, zR (q 2) gR, zD (q 1) gD, zM (qq j2) (q 2) (q 1) (zad qq (C j2)) (S j2 0), zB (qq j2) (S j2 1), zA cI (qq j2 2) 12 (S j2 2), zA cI (qq j2 3) 12 (S j2 3), zI (qq j2) (S j2 4), zL (qq j2 5) (S j2 5)] ++ zRest cI q qq n j2 S C) H := hP
        have hD : va_D A ([zX q g, zP cA (q 3) (zfm qq n), zA cI (q 4) 144 fO, zA cI (q 5) 12 to, zR (q 2) gR, zD (q 1) gD, zM (qq j2) (q 2) (q 1) (zad qq (C j2)) (S j2 0), zB (qq j2) (S j2 1), zA cI (qq j2 2) 12 (S j2 2), zA cI (qq j2 3) 12 (S j2 3), zI (qq j2) (S j2 4), zL (qq j2 5) (S j2 5)] ++ zRest cI q qq n j2 S C) := hD
        refine va_getN (D := dD) (ci := 4) (v := .int ((S j2 0) 6)) (C := RX4) (T := TX4) (N := 18) hx hb hts iX4 hown hK.1 hP 6 rfl rfl 6 (by decide) f95 (fun _ h9 => h9) rfl dX6_load_30 ?_
        refine lv_icmp_gt (tgt := 38) hx hb dX6_load_33 (by decide) (fun c7 => ?_) (fun c7 => ?_)
        · have hsp := z_t c7 hsp
          refine lv_aload_n hx hb dX6_load_38 rfl (lv_at hl 0 rfl) ?_
          refine lv_iload_n hx hb dX6_load_39 rfl (lv_at hl 3 rfl) ?_
          refine lv_aload_n hx hb dX6_load_40 rfl (lv_at hl 1 rfl) ?_
          refine va_get (D := dD) (ci := 6) (v := .ref (q 5)) (C := RX6) (T := TX6) (N := 10) hx hb hts iX6 hown hK.1 hP 0 rfl rfl 4 (by decide) f39 (fun _ h9 => h9) rfl dX6_load_41 ?_
          refine lv_aload_n hx hb dX6_load_44 rfl (lv_at hl 1 rfl) ?_
          refine va_get (D := dD) (ci := 6) (v := .int (g 6)) (C := RX6) (T := TX6) (N := 10) hx hb hts iX6 hown hK.1 hP 0 rfl rfl 6 (by decide) f92 (fun _ h9 => h9) rfl dX6_load_45 ?_
          obtain ⟨gM8, gB9, mk10, mx11, hc12, hsp⟩ := z_b4 hsp
          refine z_callVv ⟨hx, hb, hml, hown, hts⟩ hK (c_X4_keepWhole l dD cI cA (qq j2) (q 2) (q 1) (zad qq (C j2)) (q 5) (S j2 0) (S j2 1) (S j2 2) (S j2 3) to (p2) ((g 6)) gM8 gB9 mk10 mx11 hc12) (cwV 3 hts gX6_load_X4_keepWhole rfl rfl rfl (by decide +kernel) ⟨Nat.le_of_ble_eq_true rfl, Nat.le_of_ble_eq_true rfl⟩) (zJ.ofP (X := [zX q g, zP cA (q 3) (zfm qq n), zA cI (q 4) 144 fO, zA cI (q 5) 12 to, zR (q 2) gR, zD (q 1) gD, zM (qq j2) (q 2) (q 1) (zad qq (C j2)) (S j2 0), zB (qq j2) (S j2 1), zA cI (qq j2 2) 12 (S j2 2), zA cI (qq j2 3) 12 (S j2 3), zI (qq j2) (S j2 4), zL (qq j2 5) (S j2 5)]) (wc := [zM (qq j2) (q 2) (q 1) (zad qq (C j2)) (S j2 0), zB (qq j2) (S j2 1), zA cI (qq j2 2) 12 (S j2 2), zA cI (qq j2 3) 12 (S j2 3), zA cI (q 5) 12 to]) (wc1 := [zM (qq j2) (q 2) (q 1) (zad qq (C j2)) gM8, zB (qq j2) gB9, zA cI (qq j2 2) 12 mk10, zA cI (qq j2 3) 12 mx11, zA cI (q 5) 12 to]) (wr := [zX q g, zP cA (q 3) (zfm qq n), zA cI (q 4) 144 fO, zR (q 2) gR, zD (q 1) gD, zI (qq j2) (S j2 4), zL (qq j2 5) (S j2 5)]) (w2 := [zX q g, zP cA (q 3) (zfm qq n), zA cI (q 4) 144 fO, zA cI (q 5) 12 to, zR (q 2) gR, zD (q 1) gD, zM (qq j2) (q 2) (q 1) (zad qq (C j2)) gM8, zB (qq j2) gB9, zA cI (qq j2 2) 12 mk10, zA cI (qq j2 3) 12 mx11, zI (qq j2) (S j2 4), zL (qq j2 5) (S j2 5)]) hP hD hS hA [6, 7, 8, 9, 3] [0, 1, 2, 4, 5, 10, 11] [0, 1, 2, 11, 3, 4, 7, 8, 9, 10, 5, 6] rfl rfl rfl rfl rfl rfl rfl) hS 0 4 rfl rfl rfl rfl hl.1 rfl (Nat.le_of_ble_eq_true rfl) dX6_load_48 ⟨Nat.zero_le _, Nat.zero_le _⟩ (fun H locs hP hD hS => ?_)
          refine lv_aload_n hx hb dX6_load_51 rfl (lv_at hl 0 rfl) ?_
          refine lv_aload_n hx hb dX6_load_52 rfl (lv_at hl 1 rfl) ?_
          refine va_get (D := dD) (ci := 6) (v := .int (g 7)) (C := RX6) (T := TX6) (N := 10) hx hb hts iX6 hown hK.1 hP 0 rfl rfl 7 (by decide) f75 (fun _ h9 => h9) rfl dX6_load_53 ?_
          obtain ⟨gI13, gD14, hc15, hsp⟩ := z_b2 hsp
          refine z_callVv ⟨hx, hb, hml, hown, hts⟩ hK (c_X4_stir l dD cI cA (qq j2) (q 2) (q 1) (zad qq (C j2)) gM8 (S j2 4) gR gD ((g 7)) gI13 gD14 hc15) (cwV 1 hts gX6_load_X4_stir rfl rfl rfl (by decide +kernel) ⟨Nat.le_of_ble_eq_true rfl, Nat.le_of_ble_eq_true rfl⟩) (zJ.ofP (X := [zX q g, zP cA (q 3) (zfm qq n), zA cI (q 4) 144 fO, zA cI (q 5) 12 to, zR (q 2) gR, zD (q 1) gD, zM (qq j2) (q 2) (q 1) (zad qq (C j2)) gM8, zB (qq j2) gB9, zA cI (qq j2 2) 12 mk10, zA cI (qq j2 3) 12 mx11, zI (qq j2) (S j2 4), zL (qq j2 5) (S j2 5)]) (wc := [zM (qq j2) (q 2) (q 1) (zad qq (C j2)) gM8, zI (qq j2) (S j2 4), zR (q 2) gR, zD (q 1) gD]) (wc1 := [zM (qq j2) (q 2) (q 1) (zad qq (C j2)) gM8, zI (qq j2) gI13, zR (q 2) gR, zD (q 1) gD14]) (wr := [zX q g, zP cA (q 3) (zfm qq n), zA cI (q 4) 144 fO, zA cI (q 5) 12 to, zB (qq j2) gB9, zA cI (qq j2 2) 12 mk10, zA cI (qq j2 3) 12 mx11, zL (qq j2 5) (S j2 5)]) (w2 := [zX q g, zP cA (q 3) (zfm qq n), zA cI (q 4) 144 fO, zA cI (q 5) 12 to, zR (q 2) gR, zD (q 1) gD14, zM (qq j2) (q 2) (q 1) (zad qq (C j2)) gM8, zB (qq j2) gB9, zA cI (qq j2 2) 12 mk10, zA cI (qq j2 3) 12 mx11, zI (qq j2) gI13, zL (qq j2 5) (S j2 5)]) hP hD hS hA [6, 10, 4, 5] [0, 1, 2, 3, 7, 8, 9, 11] [0, 1, 2, 3, 10, 11, 8, 4, 5, 6, 9, 7] rfl rfl rfl rfl rfl rfl rfl) hS 0 4 rfl rfl rfl rfl hl.1 rfl (Nat.le_of_ble_eq_true rfl) dX6_load_56 ⟨Nat.zero_le _, Nat.zero_le _⟩ (fun H locs hP hD hS => ?_)
          refine lv_aload_n hx hb dX6_load_59 rfl (lv_at hl 1 rfl) ?_
          refine lv_iconst (v := 0) hx hb dX6_load_60 (by decide) ?_
          refine va_put (D := dD) (ci := 6) (v := .int 0) (ty := .int) (C := RX6) (T := TX6) (N := 10) hx hb hts iX6 tyX6 tyX6_ok nmX6 hown hK.1 hP hD hS 0 rfl rfl 6 (by decide) f92 (fun _ h9 => h9) rfl (by decide +kernel) rfl rfl (Nat.le_of_ble_eq_true rfl) dX6_load_61 (fun H locs hP hD hS => ?_)
          obtain ⟨g16, eg16, hsp⟩ := z_lt hsp
          have hP : va_P dD vwCl ([zX q g16, zP cA (q 3) (zfm qq n), zA cI (q 4) 144 fO, zA cI (q 5) 12 to, zR (q 2) gR, zD (q 1) gD14, zM (qq j2) (q 2) (q 1) (zad qq (C j2)) gM8, zB (qq j2) gB9, zA cI (qq j2 2) 12 mk10, zA cI (qq j2 3) 12 mx11, zI (qq j2) gI13, zL (qq j2 5) (S j2 5)] ++ zRest cI q qq n j2 S C) H := by rw [eg16]; exact hP
          have hD : va_D A ([zX q g16, zP cA (q 3) (zfm qq n), zA cI (q 4) 144 fO, zA cI (q 5) 12 to, zR (q 2) gR, zD (q 1) gD14, zM (qq j2) (q 2) (q 1) (zad qq (C j2)) gM8, zB (qq j2) gB9, zA cI (qq j2 2) 12 mk10, zA cI (qq j2 3) 12 mx11, zI (qq j2) gI13, zL (qq j2 5) (S j2 5)] ++ zRest cI q qq n j2 S C) := by rw [eg16]; exact hD
          refine lv_iload_n hx hb dX6_load_64 rfl (lv_at hl 3 rfl) ?_
          refine lv_aload_n hx hb dX6_load_65 rfl (lv_at hl 1 rfl) ?_
          refine va_get (D := dD) (ci := 6) (v := .int (g16 8)) (C := RX6) (T := TX6) (N := 10) hx hb hts iX6 hown hK.1 hP 0 rfl rfl 8 (by decide) f106 (fun _ h9 => h9) rfl dX6_load_66 ?_
          refine lv_icmp_le (tgt := 82) hx hb dX6_load_69 (by decide) (fun c17 => ?_) (fun c17 => ?_)
          · have hsp := z_t c17 hsp
            refine lv_aload_n hx hb dX6_load_82 rfl (lv_at hl 0 rfl) ?_
            refine va_getN (D := dD) (ci := 4) (v := .ref (qq j2 1)) (C := RX4) (T := TX4) (N := 18) hx hb hts iX4 hown hK.1 hP 6 rfl rfl 2 (by decide) f109 (fun _ h9 => h9) rfl dX6_load_83 ?_
            refine va_getN (D := dD) (ci := 0) (v := .int (gB9 2)) (C := RX0) (T := TX0) (N := 3) hx hb hts iX0 hown hK.1 hP 7 rfl rfl 2 (by decide) f113 (fun _ h9 => h9) rfl dX6_load_86 ?_
            obtain ⟨S18, eS18, hsp⟩ := z_lt hsp
            obtain ⟨hP, hD⟩ := z_unfS [zX q g16, zP cA (q 3) (zfm qq n), zA cI (q 4) 144 fO, zA cI (q 5) 12 to, zR (q 2) gR, zD (q 1) gD14] (gM := gM8) (gB := gB9) (mk := mk10) (mx := mx11) (gI := gI13) (gL := (S j2 5)) hj2 hP hD
            rw [← eS18] at hP hD
            have hP : va_P dD vwCl ([zX q g16, zP cA (q 3) (zfm qq n), zA cI (q 4) 144 fO, zA cI (q 5) 12 to, zR (q 2) gR, zD (q 1) gD14] ++ zPool cI q qq n S18 C) H := hP
            have hD : va_D A ([zX q g16, zP cA (q 3) (zfm qq n), zA cI (q 4) 144 fO, zA cI (q 5) 12 to, zR (q 2) gR, zD (q 1) gD14] ++ zPool cI q qq n S18 C) := hD
            obtain ⟨rfl, rfl, rfl, rfl⟩ := z_i4 hsp
            exact hret _ _ ls 89 dX6_load_89 rfl hP hD hS
          · have hsp := z_f c17 hsp
            refine lv_aload_n hx hb dX6_load_72 rfl (lv_at hl 1 rfl) ?_
            refine lv_iload_n hx hb dX6_load_73 rfl (lv_at hl 3 rfl) ?_
            refine va_put (D := dD) (ci := 6) (v := .int p2) (ty := .int) (C := RX6) (T := TX6) (N := 10) hx hb hts iX6 tyX6 tyX6_ok nmX6 hown hK.1 hP hD hS 0 rfl rfl 8 (by decide) f106 (fun _ h9 => h9) rfl (by decide +kernel) rfl rfl (Nat.le_of_ble_eq_true rfl) dX6_load_74 (fun H locs hP hD hS => ?_)
            obtain ⟨g19, eg19, hsp⟩ := z_lt hsp
            have hP : va_P dD vwCl ([zX q g19, zP cA (q 3) (zfm qq n), zA cI (q 4) 144 fO, zA cI (q 5) 12 to, zR (q 2) gR, zD (q 1) gD14, zM (qq j2) (q 2) (q 1) (zad qq (C j2)) gM8, zB (qq j2) gB9, zA cI (qq j2 2) 12 mk10, zA cI (qq j2 3) 12 mx11, zI (qq j2) gI13, zL (qq j2 5) (S j2 5)] ++ zRest cI q qq n j2 S C) H := by rw [eg19]; exact hP
            have hD : va_D A ([zX q g19, zP cA (q 3) (zfm qq n), zA cI (q 4) 144 fO, zA cI (q 5) 12 to, zR (q 2) gR, zD (q 1) gD14, zM (qq j2) (q 2) (q 1) (zad qq (C j2)) gM8, zB (qq j2) gB9, zA cI (qq j2 2) 12 mk10, zA cI (qq j2 3) 12 mx11, zI (qq j2) gI13, zL (qq j2 5) (S j2 5)] ++ zRest cI q qq n j2 S C) := by rw [eg19]; exact hD
            refine lv_aload_n hx hb dX6_load_77 rfl (lv_at hl 1 rfl) ?_
            refine lv_iconst (v := (-1)) hx hb dX6_load_78 (by decide) ?_
            refine va_put (D := dD) (ci := 6) (v := .int (-1)) (ty := .int) (C := RX6) (T := TX6) (N := 10) hx hb hts iX6 tyX6 tyX6_ok nmX6 hown hK.1 hP hD hS 0 rfl rfl 9 (by decide) f42 (fun _ h9 => h9) rfl (by decide +kernel) rfl rfl (Nat.le_of_ble_eq_true rfl) dX6_load_79 (fun H locs hP hD hS => ?_)
            obtain ⟨g20, eg20, hsp⟩ := z_lt hsp
            have hP : va_P dD vwCl ([zX q g20, zP cA (q 3) (zfm qq n), zA cI (q 4) 144 fO, zA cI (q 5) 12 to, zR (q 2) gR, zD (q 1) gD14, zM (qq j2) (q 2) (q 1) (zad qq (C j2)) gM8, zB (qq j2) gB9, zA cI (qq j2 2) 12 mk10, zA cI (qq j2 3) 12 mx11, zI (qq j2) gI13, zL (qq j2 5) (S j2 5)] ++ zRest cI q qq n j2 S C) H := by rw [eg20]; exact hP
            have hD : va_D A ([zX q g20, zP cA (q 3) (zfm qq n), zA cI (q 4) 144 fO, zA cI (q 5) 12 to, zR (q 2) gR, zD (q 1) gD14, zM (qq j2) (q 2) (q 1) (zad qq (C j2)) gM8, zB (qq j2) gB9, zA cI (qq j2 2) 12 mk10, zA cI (qq j2 3) 12 mx11, zI (qq j2) gI13, zL (qq j2 5) (S j2 5)] ++ zRest cI q qq n j2 S C) := by rw [eg20]; exact hD
            refine lv_aload_n hx hb dX6_load_82 rfl (lv_at hl 0 rfl) ?_
            refine va_getN (D := dD) (ci := 4) (v := .ref (qq j2 1)) (C := RX4) (T := TX4) (N := 18) hx hb hts iX4 hown hK.1 hP 6 rfl rfl 2 (by decide) f109 (fun _ h9 => h9) rfl dX6_load_83 ?_
            refine va_getN (D := dD) (ci := 0) (v := .int (gB9 2)) (C := RX0) (T := TX0) (N := 3) hx hb hts iX0 hown hK.1 hP 7 rfl rfl 2 (by decide) f113 (fun _ h9 => h9) rfl dX6_load_86 ?_
            obtain ⟨S21, eS21, hsp⟩ := z_lt hsp
            obtain ⟨hP, hD⟩ := z_unfS [zX q g20, zP cA (q 3) (zfm qq n), zA cI (q 4) 144 fO, zA cI (q 5) 12 to, zR (q 2) gR, zD (q 1) gD14] (gM := gM8) (gB := gB9) (mk := mk10) (mx := mx11) (gI := gI13) (gL := (S j2 5)) hj2 hP hD
            rw [← eS21] at hP hD
            have hP : va_P dD vwCl ([zX q g20, zP cA (q 3) (zfm qq n), zA cI (q 4) 144 fO, zA cI (q 5) 12 to, zR (q 2) gR, zD (q 1) gD14] ++ zPool cI q qq n S21 C) H := hP
            have hD : va_D A ([zX q g20, zP cA (q 3) (zfm qq n), zA cI (q 4) 144 fO, zA cI (q 5) 12 to, zR (q 2) gR, zD (q 1) gD14] ++ zPool cI q qq n S21 C) := hD
            obtain ⟨rfl, rfl, rfl, rfl⟩ := z_i4 hsp
            exact hret _ _ ls 89 dX6_load_89 rfl hP hD hS
        · have hsp := z_f c7 hsp
          refine lv_iconst (v := (-1)) hx hb dX6_load_36 (by decide) ?_
          obtain ⟨hP, hD⟩ := z_unf0 [zX q g, zP cA (q 3) (zfm qq n), zA cI (q 4) 144 fO, zA cI (q 5) 12 to, zR (q 2) gR, zD (q 1) gD] hj2 hP hD
          have hP : va_P dD vwCl ([zX q g, zP cA (q 3) (zfm qq n), zA cI (q 4) 144 fO, zA cI (q 5) 12 to, zR (q 2) gR, zD (q 1) gD] ++ zPool cI q qq n S C) H := hP
          have hD : va_D A ([zX q g, zP cA (q 3) (zfm qq n), zA cI (q 4) 144 fO, zA cI (q 5) 12 to, zR (q 2) gR, zD (q 1) gD] ++ zPool cI q qq n S C) := hD
          obtain ⟨rfl, rfl, rfl, rfl⟩ := z_i4 hsp
          exact hret _ _ ls 37 dX6_load_37 rfl hP hD hS
def s_X6_turn (g : zF) (fO : zF) (to : zF) (gR : zF) (gD : zF) (S : Nat → Nat → zF) (C : Nat → Option Nat) (n : Nat) (p1 : Int32) (p2 : Int32) (p3 : Int32) : Option (Int32 × (Nat → Nat → zF)) := (zat n g (p1) (some (0, S)) fun (j2 : Nat) => zb1 (s_X6_within (p2) (1) (9999)) fun (v3 : Int32) => (if v3 = 0 then some (0, S) else zb1 (s_X6_within (p3) (0) (1000000)) fun (v6 : Int32) => (if v6 = 0 then some (0, S) else zb2 (s_X4_takeTurn (S j2 0) (p2) (p3)) fun (v9 : Int32) (gM10 : zF) => if v9 = 0 ∨ v9 = 1 then zl (va_up S j2 (zs6 gM10 (S j2 1) (S j2 2) (S j2 3) (S j2 4) (S j2 5))) fun (S13 : Nat → Nat → zF) => some (v9, S13) else none)))
abbrev rm_X6_turn : Room := { frames := 1, cells := 0, slots := 0, locals := 22 }
set_option maxHeartbeats 4000000 in
set_option maxRecDepth 100000 in
theorem c_X6_turn (l : Launch) (dD : va_G) (cI cA : ClassId) (q : Nat → Nat) (qq : Nat → Nat → Nat) (n : Nat) (hn12 : n ≤ 12) (g : zF) (fO : zF) (to : zF) (gR : zF) (gD : zF) (S : Nat → Nat → zF) (C : Nat → Option Nat) (p1 : Int32) (p2 : Int32) (p3 : Int32) (rv : Int32) (r_S : Nat → Nat → zF) (hsp : s_X6_turn g fO to gR gD S C n p1 p2 p3 = some (rv, r_S)) : zMi l yX6_turn wsX6_turn rm_X6_turn dD cI cA [.ref (q 0), .int p1, .int p2, .int p3] ([zX q g, zP cA (q 3) (zfm qq n), zA cI (q 4) 144 fO, zA cI (q 5) 12 to, zR (q 2) gR, zD (q 1) gD] ++ zPool cI q qq n S C) ([zX q g, zP cA (q 3) (zfm qq n), zA cI (q 4) 144 fO, zA cI (q 5) 12 to, zR (q 2) gR, zD (q 1) gD] ++ zPool cI q qq n r_S C) rv := by
  refine zMi_of (cc := cX6_turn) (maxL := 5) (by decide) rfl (Nat.le_of_ble_eq_true rfl) ?_
  intro p e s m args below meth c A Q ls hx hb hml hown hts hK hA hP hD hl hret
  have hown : s.vm.findClass RX6 = some m.cls := hown
  have hS : va_S A s.heap s.heap [] := va_S.rf
  have hl : lv_has ls 5 [(0, .ref (q 0)), (1, .int p1), (2, .int p2), (3, .int p3)] := hl
  unfold s_X6_turn at hsp
  refine lv_aload_n hx hb dX6_turn_0 rfl (lv_at hl 0 rfl) ?_
  refine lv_iload_n hx hb dX6_turn_1 rfl (lv_at hl 1 rfl) ?_
  rcases z_at (qq := qq) hn12 hsp with ⟨hc1, hsp⟩ | ⟨j2, hj2, ej2, hc1, hsp⟩
  · refine z_callVq ⟨hx, hb, hml, hown, hts⟩ hK (c_X6_machineAt l dD cI cA q g (zfm qq n) (p1) _ hc1) (cwV 1 hts gX6_turn_X6_machineAt rfl rfl rfl (by decide +kernel) ⟨Nat.le_of_ble_eq_true rfl, Nat.le_of_ble_eq_true rfl⟩) (zJ.ofP (X := [zX q g, zP cA (q 3) (zfm qq n), zA cI (q 4) 144 fO, zA cI (q 5) 12 to, zR (q 2) gR, zD (q 1) gD]) (wc := [zX q g, zP cA (q 3) (zfm qq n)]) (wc1 := [zX q g, zP cA (q 3) (zfm qq n)]) (wr := [zA cI (q 4) 144 fO, zA cI (q 5) 12 to, zR (q 2) gR, zD (q 1) gD]) (w2 := [zX q g, zP cA (q 3) (zfm qq n), zA cI (q 4) 144 fO, zA cI (q 5) 12 to, zR (q 2) gR, zD (q 1) gD]) hP hD hS hA [0, 1] [2, 3, 4, 5] [4, 5, 0, 1, 2, 3] rfl rfl rfl rfl rfl rfl rfl) hS 0 6 rfl rfl rfl rfl hl.1 rfl (Nat.le_of_ble_eq_true rfl) dX6_turn_2 ⟨Nat.zero_le _, Nat.zero_le _⟩ (fun H locs hP hD hS => ?_)
    refine z_topN ?_
    refine lv_astoreN (lv' := [(4, .null), (0, .ref (q 0)), (1, .int p1), (2, .int p2), (3, .int p3)]) hx hb dX6_turn_5 hl (by decide) rfl (fun ls hl => ?_)
    refine lv_aloadN hx hb dX6_turn_7 (lv_at hl 0 rfl) ?_
    refine lv_ifnullN (tgt := 33) hx hb dX6_turn_9 (by decide) ?_
    refine lv_iconst (v := 0) hx hb dX6_turn_33 (by decide) ?_
    obtain ⟨rfl, rfl⟩ := z_i2 hsp
    exact hret _ _ ls 34 dX6_turn_34 rfl hP hD hS
  · refine z_callVq ⟨hx, hb, hml, hown, hts⟩ hK (c_X6_machineAt l dD cI cA q g (zfm qq n) (p1) _ hc1) (cwV 1 hts gX6_turn_X6_machineAt rfl rfl rfl (by decide +kernel) ⟨Nat.le_of_ble_eq_true rfl, Nat.le_of_ble_eq_true rfl⟩) (zJ.ofP (X := [zX q g, zP cA (q 3) (zfm qq n), zA cI (q 4) 144 fO, zA cI (q 5) 12 to, zR (q 2) gR, zD (q 1) gD]) (wc := [zX q g, zP cA (q 3) (zfm qq n)]) (wc1 := [zX q g, zP cA (q 3) (zfm qq n)]) (wr := [zA cI (q 4) 144 fO, zA cI (q 5) 12 to, zR (q 2) gR, zD (q 1) gD]) (w2 := [zX q g, zP cA (q 3) (zfm qq n), zA cI (q 4) 144 fO, zA cI (q 5) 12 to, zR (q 2) gR, zD (q 1) gD]) hP hD hS hA [0, 1] [2, 3, 4, 5] [4, 5, 0, 1, 2, 3] rfl rfl rfl rfl rfl rfl rfl) hS 0 6 rfl rfl rfl rfl hl.1 rfl (Nat.le_of_ble_eq_true rfl) dX6_turn_2 ⟨Nat.zero_le _, Nat.zero_le _⟩ (fun H locs hP hD hS => ?_)
    refine z_topR ?_
    refine lv_astore (lv' := [(4, .ref (qq j2 0)), (0, .ref (q 0)), (1, .int p1), (2, .int p2), (3, .int p3)]) hx hb dX6_turn_5 hl (by decide) rfl (fun ls hl => ?_)
    refine lv_aload hx hb dX6_turn_7 (lv_at hl 0 rfl) ?_
    refine lv_ifnull hx hb dX6_turn_9 ?_
    refine lv_iload_n hx hb dX6_turn_12 rfl (lv_at hl 3 rfl) ?_
    refine lv_iconst (v := 1) hx hb dX6_turn_13 (by decide) ?_
    refine lv_sipush (v := 9999) hx hb dX6_turn_14 (by decide) ?_
    obtain ⟨v3, hc4, hsp⟩ := z_b1 hsp
    refine z_callSi ⟨hx, hb, hml, hown, hts⟩ hK (c_X6_within l dD cI cA (p2) (1) (9999) v3 hc4) (va_cwS 3 hts gX6_turn_X6_within rfl rfl rfl (by decide +kernel) ⟨Nat.le_of_ble_eq_true rfl, Nat.le_of_ble_eq_true rfl⟩) (zJ.ofP (X := [zX q g, zP cA (q 3) (zfm qq n), zA cI (q 4) 144 fO, zA cI (q 5) 12 to, zR (q 2) gR, zD (q 1) gD]) (wc := []) (wc1 := []) (wr := [zX q g, zP cA (q 3) (zfm qq n), zA cI (q 4) 144 fO, zA cI (q 5) 12 to, zR (q 2) gR, zD (q 1) gD]) (w2 := [zX q g, zP cA (q 3) (zfm qq n), zA cI (q 4) 144 fO, zA cI (q 5) 12 to, zR (q 2) gR, zD (q 1) gD]) hP hD hS hA [] [0, 1, 2, 3, 4, 5] [0, 1, 2, 3, 4, 5] rfl rfl rfl rfl rfl rfl rfl) hS rfl hl.1 rfl (Nat.le_of_ble_eq_true rfl) dX6_turn_17 ⟨Nat.zero_le _, Nat.zero_le _⟩ (fun H locs hP hD hS => ?_)
    refine lv_if_eq (tgt := 33) hx hb dX6_turn_20 (by decide) (fun c5 => ?_) (fun c5 => ?_)
    · have hsp := z_t c5 hsp
      refine lv_iconst (v := 0) hx hb dX6_turn_33 (by decide) ?_
      obtain ⟨rfl, rfl⟩ := z_i2 hsp
      exact hret _ _ ls 34 dX6_turn_34 rfl hP hD hS
    · have hsp := z_f c5 hsp
      refine lv_iload_n hx hb dX6_turn_23 rfl (lv_at hl 4 rfl) ?_
      refine lv_iconst (v := 0) hx hb dX6_turn_24 (by decide) ?_
      refine lv_ldc (v := 1000000) hx hb hown (hts (.constant RX6 118 1000000) (by decide +kernel)) dX6_turn_25 ?_
      obtain ⟨v6, hc7, hsp⟩ := z_b1 hsp
      refine z_callSi ⟨hx, hb, hml, hown, hts⟩ hK (c_X6_within l dD cI cA (p3) (0) (1000000) v6 hc7) (va_cwS 3 hts gX6_turn_X6_within rfl rfl rfl (by decide +kernel) ⟨Nat.le_of_ble_eq_true rfl, Nat.le_of_ble_eq_true rfl⟩) (zJ.ofP (X := [zX q g, zP cA (q 3) (zfm qq n), zA cI (q 4) 144 fO, zA cI (q 5) 12 to, zR (q 2) gR, zD (q 1) gD]) (wc := []) (wc1 := []) (wr := [zX q g, zP cA (q 3) (zfm qq n), zA cI (q 4) 144 fO, zA cI (q 5) 12 to, zR (q 2) gR, zD (q 1) gD]) (w2 := [zX q g, zP cA (q 3) (zfm qq n), zA cI (q 4) 144 fO, zA cI (q 5) 12 to, zR (q 2) gR, zD (q 1) gD]) hP hD hS hA [] [0, 1, 2, 3, 4, 5] [0, 1, 2, 3, 4, 5] rfl rfl rfl rfl rfl rfl rfl) hS rfl hl.1 rfl (Nat.le_of_ble_eq_true rfl) dX6_turn_27 ⟨Nat.zero_le _, Nat.zero_le _⟩ (fun H locs hP hD hS => ?_)
      refine lv_if_ne (tgt := 35) hx hb dX6_turn_30 (by decide) (fun c8 => ?_) (fun c8 => ?_)
      · have hsp := z_f c8 hsp
        refine lv_aload hx hb dX6_turn_35 (lv_at hl 0 rfl) ?_
        refine lv_iload_n hx hb dX6_turn_37 rfl (lv_at hl 3 rfl) ?_
        refine lv_iload_n hx hb dX6_turn_38 rfl (lv_at hl 4 rfl) ?_
        obtain ⟨hP, hD⟩ := z_foc (fx := [zX q g, zP cA (q 3) (zfm qq n), zA cI (q 4) 144 fO, zA cI (q 5) 12 to, zR (q 2) gR, zD (q 1) gD]) hj2 hP hD
        have hP : va_P dD vwCl ([zX q g, zP cA (q 3) (zfm qq n), zA cI (q 4) 144 fO, zA cI (q 5) 12 to, zR (q 2) gR, zD (q 1) gD, zM (qq j2) (q 2) (q 1) (zad qq (C j2)) (S j2 0), zB (qq j2) (S j2 1), zA cI (qq j2 2) 12 (S j2 2), zA cI (qq j2 3) 12 (S j2 3), zI (qq j2) (S j2 4), zL (qq j2 5) (S j2 5)] ++ zRest cI q qq n j2 S C) H := hP
        have hD : va_D A ([zX q g, zP cA (q 3) (zfm qq n), zA cI (q 4) 144 fO, zA cI (q 5) 12 to, zR (q 2) gR, zD (q 1) gD, zM (qq j2) (q 2) (q 1) (zad qq (C j2)) (S j2 0), zB (qq j2) (S j2 1), zA cI (qq j2 2) 12 (S j2 2), zA cI (qq j2 3) 12 (S j2 3), zI (qq j2) (S j2 4), zL (qq j2 5) (S j2 5)] ++ zRest cI q qq n j2 S C) := hD
        obtain ⟨v9, gM10, hc11, hsp⟩ := z_b2 hsp
        refine z_callVi ⟨hx, hb, hml, hown, hts⟩ hK (c_X4_takeTurn l dD cI cA (qq j2) (q 2) (q 1) (zad qq (C j2)) (S j2 0) (p2) (p3) v9 gM10 hc11) (cwV 2 hts gX6_turn_X4_takeTurn rfl rfl rfl (by decide +kernel) ⟨Nat.le_of_ble_eq_true rfl, Nat.le_of_ble_eq_true rfl⟩) (zJ.ofP (X := [zX q g, zP cA (q 3) (zfm qq n), zA cI (q 4) 144 fO, zA cI (q 5) 12 to, zR (q 2) gR, zD (q 1) gD, zM (qq j2) (q 2) (q 1) (zad qq (C j2)) (S j2 0), zB (qq j2) (S j2 1), zA cI (qq j2 2) 12 (S j2 2), zA cI (qq j2 3) 12 (S j2 3), zI (qq j2) (S j2 4), zL (qq j2 5) (S j2 5)]) (wc := [zM (qq j2) (q 2) (q 1) (zad qq (C j2)) (S j2 0)]) (wc1 := [zM (qq j2) (q 2) (q 1) (zad qq (C j2)) gM10]) (wr := [zX q g, zP cA (q 3) (zfm qq n), zA cI (q 4) 144 fO, zA cI (q 5) 12 to, zR (q 2) gR, zD (q 1) gD, zB (qq j2) (S j2 1), zA cI (qq j2 2) 12 (S j2 2), zA cI (qq j2 3) 12 (S j2 3), zI (qq j2) (S j2 4), zL (qq j2 5) (S j2 5)]) (w2 := [zX q g, zP cA (q 3) (zfm qq n), zA cI (q 4) 144 fO, zA cI (q 5) 12 to, zR (q 2) gR, zD (q 1) gD, zM (qq j2) (q 2) (q 1) (zad qq (C j2)) gM10, zB (qq j2) (S j2 1), zA cI (qq j2 2) 12 (S j2 2), zA cI (qq j2 3) 12 (S j2 3), zI (qq j2) (S j2 4), zL (qq j2 5) (S j2 5)]) hP hD hS hA [6] [0, 1, 2, 3, 4, 5, 7, 8, 9, 10, 11] [0, 1, 2, 3, 4, 5, 11, 6, 7, 8, 9, 10] rfl rfl rfl rfl rfl rfl rfl) hS 0 4 rfl rfl rfl rfl hl.1 rfl (Nat.le_of_ble_eq_true rfl) dX6_turn_39 ⟨Nat.zero_le _, Nat.zero_le _⟩ (fun H locs hP hD hS => ?_)
        obtain ⟨h12, hsp⟩ := z_bl hsp
        obtain ⟨S13, eS13, hsp⟩ := z_lt hsp
        obtain ⟨hP, hD⟩ := z_unfS [zX q g, zP cA (q 3) (zfm qq n), zA cI (q 4) 144 fO, zA cI (q 5) 12 to, zR (q 2) gR, zD (q 1) gD] (gM := gM10) (gB := (S j2 1)) (mk := (S j2 2)) (mx := (S j2 3)) (gI := (S j2 4)) (gL := (S j2 5)) hj2 hP hD
        rw [← eS13] at hP hD
        have hP : va_P dD vwCl ([zX q g, zP cA (q 3) (zfm qq n), zA cI (q 4) 144 fO, zA cI (q 5) 12 to, zR (q 2) gR, zD (q 1) gD] ++ zPool cI q qq n S13 C) H := hP
        have hD : va_D A ([zX q g, zP cA (q 3) (zfm qq n), zA cI (q 4) 144 fO, zA cI (q 5) 12 to, zR (q 2) gR, zD (q 1) gD] ++ zPool cI q qq n S13 C) := hD
        obtain ⟨rfl, rfl⟩ := z_i2 hsp
        exact hret _ _ ls 42 dX6_turn_42 h12 hP hD hS
      · have hsp := z_t c8 hsp
        refine lv_iconst (v := 0) hx hb dX6_turn_33 (by decide) ?_
        obtain ⟨rfl, rfl⟩ := z_i2 hsp
        exact hret _ _ ls 34 dX6_turn_34 rfl hP hD hS
def s_X6_lie (g : zF) (fO : zF) (to : zF) (gR : zF) (gD : zF) (S : Nat → Nat → zF) (C : Nat → Option Nat) (n : Nat) (p1 : Int32) (p2 : Int32) (p3 : Int32) : Option (Int32 × (zF) × (Nat → Nat → zF)) := (zat n g (p1) (some (0, gD, S)) fun (j2 : Nat) => (if ((S j2 0) 6) = 0 then some (0, gD, S) else zb1 (s_X6_within (p2) (1) (((zShl 1 ((S j2 0) 7)) - 1))) fun (v4 : Int32) => (if v4 = 0 then some (0, gD, S) else zb5 (s_X4_takeOwnMix (S j2 0) (S j2 1) (S j2 2) (S j2 3) (p2) (p3)) fun (v7 : Int32) (gM8 : zF) (gB9 : zF) (mk10 : zF) (mx11 : zF) => (if v7 = 0 then zl (va_up S j2 (zs6 gM8 gB9 mk10 mx11 (S j2 4) (S j2 5))) fun (S14 : Nat → Nat → zF) => some (1, gD, S14) else zb2 (s_X4_stir gM8 (S j2 4) gR gD ((g 7))) fun (gI15 : zF) (gD16 : zF) => zl (va_up S j2 (zs6 gM8 gB9 mk10 mx11 gI15 (S j2 5))) fun (S18 : Nat → Nat → zF) => some (1, gD16, S18)))))
abbrev rm_X6_lie : Room := { frames := 4, cells := 0, slots := 0, locals := 90 }
set_option maxHeartbeats 4000000 in
set_option maxRecDepth 100000 in
theorem c_X6_lie (l : Launch) (dD : va_G) (cI cA : ClassId) (q : Nat → Nat) (qq : Nat → Nat → Nat) (n : Nat) (hn12 : n ≤ 12) (g : zF) (fO : zF) (to : zF) (gR : zF) (gD : zF) (S : Nat → Nat → zF) (C : Nat → Option Nat) (p1 : Int32) (p2 : Int32) (p3 : Int32) (rv : Int32) (r_gD : zF) (r_S : Nat → Nat → zF) (hsp : s_X6_lie g fO to gR gD S C n p1 p2 p3 = some (rv, r_gD, r_S)) : zMi l yX6_lie wsX6_lie rm_X6_lie dD cI cA [.ref (q 0), .int p1, .int p2, .int p3] ([zX q g, zP cA (q 3) (zfm qq n), zA cI (q 4) 144 fO, zA cI (q 5) 12 to, zR (q 2) gR, zD (q 1) gD] ++ zPool cI q qq n S C) ([zX q g, zP cA (q 3) (zfm qq n), zA cI (q 4) 144 fO, zA cI (q 5) 12 to, zR (q 2) gR, zD (q 1) r_gD] ++ zPool cI q qq n r_S C) rv := by
  refine zMi_of (cc := cX6_lie) (maxL := 5) (by decide) rfl (Nat.le_of_ble_eq_true rfl) ?_
  intro p e s m args below meth c A Q ls hx hb hml hown hts hK hA hP hD hl hret
  have hown : s.vm.findClass RX6 = some m.cls := hown
  have iX4 : ∀ w ∈ wsX40, w ∈ wsX6_lie := by decide +kernel
  have iX6 : ∀ w ∈ wsX60, w ∈ wsX6_lie := by decide +kernel
  have f95 : (Cond.fieldLinkNest RX6 95 "MeshField$Machine" "number" "I" "MeshField").before args s = true := hK.nw (by decide +kernel)
  have f123 : (Cond.fieldLinkNest RX6 123 "MeshField$Machine" "pieces" "I" "MeshField").before args s = true := hK.nw (by decide +kernel)
  have f75 := hts (.fieldLink RX6 75 "MeshField" "now" "I") (by decide +kernel)
  have hS : va_S A s.heap s.heap [] := va_S.rf
  have hl : lv_has ls 5 [(0, .ref (q 0)), (1, .int p1), (2, .int p2), (3, .int p3)] := hl
  unfold s_X6_lie at hsp
  refine lv_aload_n hx hb dX6_lie_0 rfl (lv_at hl 0 rfl) ?_
  refine lv_iload_n hx hb dX6_lie_1 rfl (lv_at hl 1 rfl) ?_
  rcases z_at (qq := qq) hn12 hsp with ⟨hc1, hsp⟩ | ⟨j2, hj2, ej2, hc1, hsp⟩
  · refine z_callVq ⟨hx, hb, hml, hown, hts⟩ hK (c_X6_machineAt l dD cI cA q g (zfm qq n) (p1) _ hc1) (cwV 1 hts gX6_lie_X6_machineAt rfl rfl rfl (by decide +kernel) ⟨Nat.le_of_ble_eq_true rfl, Nat.le_of_ble_eq_true rfl⟩) (zJ.ofP (X := [zX q g, zP cA (q 3) (zfm qq n), zA cI (q 4) 144 fO, zA cI (q 5) 12 to, zR (q 2) gR, zD (q 1) gD]) (wc := [zX q g, zP cA (q 3) (zfm qq n)]) (wc1 := [zX q g, zP cA (q 3) (zfm qq n)]) (wr := [zA cI (q 4) 144 fO, zA cI (q 5) 12 to, zR (q 2) gR, zD (q 1) gD]) (w2 := [zX q g, zP cA (q 3) (zfm qq n), zA cI (q 4) 144 fO, zA cI (q 5) 12 to, zR (q 2) gR, zD (q 1) gD]) hP hD hS hA [0, 1] [2, 3, 4, 5] [4, 5, 0, 1, 2, 3] rfl rfl rfl rfl rfl rfl rfl) hS 0 6 rfl rfl rfl rfl hl.1 rfl (Nat.le_of_ble_eq_true rfl) dX6_lie_2 ⟨Nat.zero_le _, Nat.zero_le _⟩ (fun H locs hP hD hS => ?_)
    refine z_topN ?_
    refine lv_astoreN (lv' := [(4, .null), (0, .ref (q 0)), (1, .int p1), (2, .int p2), (3, .int p3)]) hx hb dX6_lie_5 hl (by decide) rfl (fun ls hl => ?_)
    refine lv_aloadN hx hb dX6_lie_7 (lv_at hl 0 rfl) ?_
    refine lv_ifnullN (tgt := 37) hx hb dX6_lie_9 (by decide) ?_
    refine lv_iconst (v := 0) hx hb dX6_lie_37 (by decide) ?_
    obtain ⟨rfl, rfl, rfl⟩ := z_i3 hsp
    exact hret _ _ ls 38 dX6_lie_38 rfl hP hD hS
  · refine z_callVq ⟨hx, hb, hml, hown, hts⟩ hK (c_X6_machineAt l dD cI cA q g (zfm qq n) (p1) _ hc1) (cwV 1 hts gX6_lie_X6_machineAt rfl rfl rfl (by decide +kernel) ⟨Nat.le_of_ble_eq_true rfl, Nat.le_of_ble_eq_true rfl⟩) (zJ.ofP (X := [zX q g, zP cA (q 3) (zfm qq n), zA cI (q 4) 144 fO, zA cI (q 5) 12 to, zR (q 2) gR, zD (q 1) gD]) (wc := [zX q g, zP cA (q 3) (zfm qq n)]) (wc1 := [zX q g, zP cA (q 3) (zfm qq n)]) (wr := [zA cI (q 4) 144 fO, zA cI (q 5) 12 to, zR (q 2) gR, zD (q 1) gD]) (w2 := [zX q g, zP cA (q 3) (zfm qq n), zA cI (q 4) 144 fO, zA cI (q 5) 12 to, zR (q 2) gR, zD (q 1) gD]) hP hD hS hA [0, 1] [2, 3, 4, 5] [4, 5, 0, 1, 2, 3] rfl rfl rfl rfl rfl rfl rfl) hS 0 6 rfl rfl rfl rfl hl.1 rfl (Nat.le_of_ble_eq_true rfl) dX6_lie_2 ⟨Nat.zero_le _, Nat.zero_le _⟩ (fun H locs hP hD hS => ?_)
    refine z_topR ?_
    refine lv_astore (lv' := [(4, .ref (qq j2 0)), (0, .ref (q 0)), (1, .int p1), (2, .int p2), (3, .int p3)]) hx hb dX6_lie_5 hl (by decide) rfl (fun ls hl => ?_)
    refine lv_aload hx hb dX6_lie_7 (lv_at hl 0 rfl) ?_
    refine lv_ifnull hx hb dX6_lie_9 ?_
    refine lv_aload hx hb dX6_lie_12 (lv_at hl 0 rfl) ?_
    obtain ⟨hP, hD⟩ := z_foc (fx := [zX q g, zP cA (q 3) (zfm qq n), zA cI (q 4) 144 fO, zA cI (q 5) 12 to, zR (q 2) gR, zD (q 1) gD]) hj2 hP hD
    have hP : va_P dD vwCl ([zX q g, zP cA (q 3) (zfm qq n), zA cI (q 4) 144 fO, zA cI (q 5) 12 to, zR (q 2) gR, zD (q 1) gD, zM (qq j2) (q 2) (q 1) (zad qq (C j2)) (S j2 0), zB (qq j2) (S j2 1), zA cI (qq j2 2) 12 (S j2 2), zA cI (qq j2 3) 12 (S j2 3), zI (qq j2) (S j2 4), zL (qq j2 5) (S j2 5)] ++ zRest cI q qq n j2 S C) H := hP
    have hD : va_D A ([zX q g, zP cA (q 3) (zfm qq n), zA cI (q 4) 144 fO, zA cI (q 5) 12 to, zR (q 2) gR, zD (q 1) gD, zM (qq j2) (q 2) (q 1) (zad qq (C j2)) (S j2 0), zB (qq j2) (S j2 1), zA cI (qq j2 2) 12 (S j2 2), zA cI (qq j2 3) 12 (S j2 3), zI (qq j2) (S j2 4), zL (qq j2 5) (S j2 5)] ++ zRest cI q qq n j2 S C) := hD
    refine va_getN (D := dD) (ci := 4) (v := .int ((S j2 0) 6)) (C := RX4) (T := TX4) (N := 18) hx hb hts iX4 hown hK.1 hP 6 rfl rfl 6 (by decide) f95 (fun _ h9 => h9) rfl dX6_lie_14 ?_
    refine lv_if_eq (tgt := 37) hx hb dX6_lie_17 (by decide) (fun c3 => ?_) (fun c3 => ?_)
    · have hsp := z_t c3 hsp
      refine lv_iconst (v := 0) hx hb dX6_lie_37 (by decide) ?_
      obtain ⟨hP, hD⟩ := z_unf0 [zX q g, zP cA (q 3) (zfm qq n), zA cI (q 4) 144 fO, zA cI (q 5) 12 to, zR (q 2) gR, zD (q 1) gD] hj2 hP hD
      have hP : va_P dD vwCl ([zX q g, zP cA (q 3) (zfm qq n), zA cI (q 4) 144 fO, zA cI (q 5) 12 to, zR (q 2) gR, zD (q 1) gD] ++ zPool cI q qq n S C) H := hP
      have hD : va_D A ([zX q g, zP cA (q 3) (zfm qq n), zA cI (q 4) 144 fO, zA cI (q 5) 12 to, zR (q 2) gR, zD (q 1) gD] ++ zPool cI q qq n S C) := hD
      obtain ⟨rfl, rfl, rfl⟩ := z_i3 hsp
      exact hret _ _ ls 38 dX6_lie_38 rfl hP hD hS
    · have hsp := z_f c3 hsp
      refine lv_iload_n hx hb dX6_lie_20 rfl (lv_at hl 3 rfl) ?_
      refine lv_iconst (v := 1) hx hb dX6_lie_21 (by decide) ?_
      refine lv_iconst (v := 1) hx hb dX6_lie_22 (by decide) ?_
      refine lv_aload hx hb dX6_lie_23 (lv_at hl 0 rfl) ?_
      refine va_getN (D := dD) (ci := 4) (v := .int ((S j2 0) 7)) (C := RX4) (T := TX4) (N := 18) hx hb hts iX4 hown hK.1 hP 6 rfl rfl 7 (by decide) f123 (fun _ h9 => h9) rfl dX6_lie_25 ?_
      refine lv_ishl hx hb dX6_lie_28 ?_
      refine z_top (y := (zShl 1 ((S j2 0) 7))) rfl ?_
      refine lv_iconst (v := 1) hx hb dX6_lie_29 (by decide) ?_
      refine lv_isub hx hb dX6_lie_30 ?_
      obtain ⟨v4, hc5, hsp⟩ := z_b1 hsp
      refine z_callSi ⟨hx, hb, hml, hown, hts⟩ hK (c_X6_within l dD cI cA (p2) (1) (((zShl 1 ((S j2 0) 7)) - 1)) v4 hc5) (va_cwS 3 hts gX6_lie_X6_within rfl rfl rfl (by decide +kernel) ⟨Nat.le_of_ble_eq_true rfl, Nat.le_of_ble_eq_true rfl⟩) (zJ.ofP (X := [zX q g, zP cA (q 3) (zfm qq n), zA cI (q 4) 144 fO, zA cI (q 5) 12 to, zR (q 2) gR, zD (q 1) gD, zM (qq j2) (q 2) (q 1) (zad qq (C j2)) (S j2 0), zB (qq j2) (S j2 1), zA cI (qq j2 2) 12 (S j2 2), zA cI (qq j2 3) 12 (S j2 3), zI (qq j2) (S j2 4), zL (qq j2 5) (S j2 5)]) (wc := []) (wc1 := []) (wr := [zX q g, zP cA (q 3) (zfm qq n), zA cI (q 4) 144 fO, zA cI (q 5) 12 to, zR (q 2) gR, zD (q 1) gD, zM (qq j2) (q 2) (q 1) (zad qq (C j2)) (S j2 0), zB (qq j2) (S j2 1), zA cI (qq j2 2) 12 (S j2 2), zA cI (qq j2 3) 12 (S j2 3), zI (qq j2) (S j2 4), zL (qq j2 5) (S j2 5)]) (w2 := [zX q g, zP cA (q 3) (zfm qq n), zA cI (q 4) 144 fO, zA cI (q 5) 12 to, zR (q 2) gR, zD (q 1) gD, zM (qq j2) (q 2) (q 1) (zad qq (C j2)) (S j2 0), zB (qq j2) (S j2 1), zA cI (qq j2 2) 12 (S j2 2), zA cI (qq j2 3) 12 (S j2 3), zI (qq j2) (S j2 4), zL (qq j2 5) (S j2 5)]) hP hD hS hA [] [0, 1, 2, 3, 4, 5, 6, 7, 8, 9, 10, 11] [0, 1, 2, 3, 4, 5, 6, 7, 8, 9, 10, 11] rfl rfl rfl rfl rfl rfl rfl) hS rfl hl.1 rfl (Nat.le_of_ble_eq_true rfl) dX6_lie_31 ⟨Nat.zero_le _, Nat.zero_le _⟩ (fun H locs hP hD hS => ?_)
      refine lv_if_ne (tgt := 39) hx hb dX6_lie_34 (by decide) (fun c6 => ?_) (fun c6 => ?_)
      · have hsp := z_f c6 hsp
        refine lv_aload hx hb dX6_lie_39 (lv_at hl 0 rfl) ?_
        refine lv_iload_n hx hb dX6_lie_41 rfl (lv_at hl 3 rfl) ?_
        refine lv_iload_n hx hb dX6_lie_42 rfl (lv_at hl 4 rfl) ?_
        obtain ⟨v7, gM8, gB9, mk10, mx11, hc12, hsp⟩ := z_b5 hsp
        refine z_callVi ⟨hx, hb, hml, hown, hts⟩ hK (c_X4_takeOwnMix l dD cI cA (qq j2) (q 2) (q 1) (zad qq (C j2)) (S j2 0) (S j2 1) (S j2 2) (S j2 3) (p2) (p3) v7 gM8 gB9 mk10 mx11 hc12) (cwV 2 hts gX6_lie_X4_takeOwnMix rfl rfl rfl (by decide +kernel) ⟨Nat.le_of_ble_eq_true rfl, Nat.le_of_ble_eq_true rfl⟩) (zJ.ofP (X := [zX q g, zP cA (q 3) (zfm qq n), zA cI (q 4) 144 fO, zA cI (q 5) 12 to, zR (q 2) gR, zD (q 1) gD, zM (qq j2) (q 2) (q 1) (zad qq (C j2)) (S j2 0), zB (qq j2) (S j2 1), zA cI (qq j2 2) 12 (S j2 2), zA cI (qq j2 3) 12 (S j2 3), zI (qq j2) (S j2 4), zL (qq j2 5) (S j2 5)]) (wc := [zM (qq j2) (q 2) (q 1) (zad qq (C j2)) (S j2 0), zB (qq j2) (S j2 1), zA cI (qq j2 2) 12 (S j2 2), zA cI (qq j2 3) 12 (S j2 3)]) (wc1 := [zM (qq j2) (q 2) (q 1) (zad qq (C j2)) gM8, zB (qq j2) gB9, zA cI (qq j2 2) 12 mk10, zA cI (qq j2 3) 12 mx11]) (wr := [zX q g, zP cA (q 3) (zfm qq n), zA cI (q 4) 144 fO, zA cI (q 5) 12 to, zR (q 2) gR, zD (q 1) gD, zI (qq j2) (S j2 4), zL (qq j2 5) (S j2 5)]) (w2 := [zX q g, zP cA (q 3) (zfm qq n), zA cI (q 4) 144 fO, zA cI (q 5) 12 to, zR (q 2) gR, zD (q 1) gD, zM (qq j2) (q 2) (q 1) (zad qq (C j2)) gM8, zB (qq j2) gB9, zA cI (qq j2 2) 12 mk10, zA cI (qq j2 3) 12 mx11, zI (qq j2) (S j2 4), zL (qq j2 5) (S j2 5)]) hP hD hS hA [6, 7, 8, 9] [0, 1, 2, 3, 4, 5, 10, 11] [0, 1, 2, 3, 4, 5, 8, 9, 10, 11, 6, 7] rfl rfl rfl rfl rfl rfl rfl) hS 0 4 rfl rfl rfl rfl hl.1 rfl (Nat.le_of_ble_eq_true rfl) dX6_lie_43 ⟨Nat.zero_le _, Nat.zero_le _⟩ (fun H locs hP hD hS => ?_)
        refine lv_if_eq (tgt := 58) hx hb dX6_lie_46 (by decide) (fun c13 => ?_) (fun c13 => ?_)
        · have hsp := z_t c13 hsp
          refine lv_iconst (v := 1) hx hb dX6_lie_58 (by decide) ?_
          obtain ⟨S14, eS14, hsp⟩ := z_lt hsp
          obtain ⟨hP, hD⟩ := z_unfS [zX q g, zP cA (q 3) (zfm qq n), zA cI (q 4) 144 fO, zA cI (q 5) 12 to, zR (q 2) gR, zD (q 1) gD] (gM := gM8) (gB := gB9) (mk := mk10) (mx := mx11) (gI := (S j2 4)) (gL := (S j2 5)) hj2 hP hD
          rw [← eS14] at hP hD
          have hP : va_P dD vwCl ([zX q g, zP cA (q 3) (zfm qq n), zA cI (q 4) 144 fO, zA cI (q 5) 12 to, zR (q 2) gR, zD (q 1) gD] ++ zPool cI q qq n S14 C) H := hP
          have hD : va_D A ([zX q g, zP cA (q 3) (zfm qq n), zA cI (q 4) 144 fO, zA cI (q 5) 12 to, zR (q 2) gR, zD (q 1) gD] ++ zPool cI q qq n S14 C) := hD
          obtain ⟨rfl, rfl, rfl⟩ := z_i3 hsp
          exact hret _ _ ls 59 dX6_lie_59 rfl hP hD hS
        · have hsp := z_f c13 hsp
          refine lv_aload hx hb dX6_lie_49 (lv_at hl 0 rfl) ?_
          refine lv_aload_n hx hb dX6_lie_51 rfl (lv_at hl 1 rfl) ?_
          refine va_get (D := dD) (ci := 6) (v := .int (g 7)) (C := RX6) (T := TX6) (N := 10) hx hb hts iX6 hown hK.1 hP 0 rfl rfl 7 (by decide) f75 (fun _ h9 => h9) rfl dX6_lie_52 ?_
          obtain ⟨gI15, gD16, hc17, hsp⟩ := z_b2 hsp
          refine z_callVv ⟨hx, hb, hml, hown, hts⟩ hK (c_X4_stir l dD cI cA (qq j2) (q 2) (q 1) (zad qq (C j2)) gM8 (S j2 4) gR gD ((g 7)) gI15 gD16 hc17) (cwV 1 hts gX6_lie_X4_stir rfl rfl rfl (by decide +kernel) ⟨Nat.le_of_ble_eq_true rfl, Nat.le_of_ble_eq_true rfl⟩) (zJ.ofP (X := [zX q g, zP cA (q 3) (zfm qq n), zA cI (q 4) 144 fO, zA cI (q 5) 12 to, zR (q 2) gR, zD (q 1) gD, zM (qq j2) (q 2) (q 1) (zad qq (C j2)) gM8, zB (qq j2) gB9, zA cI (qq j2 2) 12 mk10, zA cI (qq j2 3) 12 mx11, zI (qq j2) (S j2 4), zL (qq j2 5) (S j2 5)]) (wc := [zM (qq j2) (q 2) (q 1) (zad qq (C j2)) gM8, zI (qq j2) (S j2 4), zR (q 2) gR, zD (q 1) gD]) (wc1 := [zM (qq j2) (q 2) (q 1) (zad qq (C j2)) gM8, zI (qq j2) gI15, zR (q 2) gR, zD (q 1) gD16]) (wr := [zX q g, zP cA (q 3) (zfm qq n), zA cI (q 4) 144 fO, zA cI (q 5) 12 to, zB (qq j2) gB9, zA cI (qq j2 2) 12 mk10, zA cI (qq j2 3) 12 mx11, zL (qq j2 5) (S j2 5)]) (w2 := [zX q g, zP cA (q 3) (zfm qq n), zA cI (q 4) 144 fO, zA cI (q 5) 12 to, zR (q 2) gR, zD (q 1) gD16, zM (qq j2) (q 2) (q 1) (zad qq (C j2)) gM8, zB (qq j2) gB9, zA cI (qq j2 2) 12 mk10, zA cI (qq j2 3) 12 mx11, zI (qq j2) gI15, zL (qq j2 5) (S j2 5)]) hP hD hS hA [6, 10, 4, 5] [0, 1, 2, 3, 7, 8, 9, 11] [0, 1, 2, 3, 10, 11, 8, 4, 5, 6, 9, 7] rfl rfl rfl rfl rfl rfl rfl) hS 0 4 rfl rfl rfl rfl hl.1 rfl (Nat.le_of_ble_eq_true rfl) dX6_lie_55 ⟨Nat.zero_le _, Nat.zero_le _⟩ (fun H locs hP hD hS => ?_)
          refine lv_iconst (v := 1) hx hb dX6_lie_58 (by decide) ?_
          obtain ⟨S18, eS18, hsp⟩ := z_lt hsp
          obtain ⟨hP, hD⟩ := z_unfS [zX q g, zP cA (q 3) (zfm qq n), zA cI (q 4) 144 fO, zA cI (q 5) 12 to, zR (q 2) gR, zD (q 1) gD16] (gM := gM8) (gB := gB9) (mk := mk10) (mx := mx11) (gI := gI15) (gL := (S j2 5)) hj2 hP hD
          rw [← eS18] at hP hD
          have hP : va_P dD vwCl ([zX q g, zP cA (q 3) (zfm qq n), zA cI (q 4) 144 fO, zA cI (q 5) 12 to, zR (q 2) gR, zD (q 1) gD16] ++ zPool cI q qq n S18 C) H := hP
          have hD : va_D A ([zX q g, zP cA (q 3) (zfm qq n), zA cI (q 4) 144 fO, zA cI (q 5) 12 to, zR (q 2) gR, zD (q 1) gD16] ++ zPool cI q qq n S18 C) := hD
          obtain ⟨rfl, rfl, rfl⟩ := z_i3 hsp
          exact hret _ _ ls 59 dX6_lie_59 rfl hP hD hS
      · have hsp := z_t c6 hsp
        refine lv_iconst (v := 0) hx hb dX6_lie_37 (by decide) ?_
        obtain ⟨hP, hD⟩ := z_unf0 [zX q g, zP cA (q 3) (zfm qq n), zA cI (q 4) 144 fO, zA cI (q 5) 12 to, zR (q 2) gR, zD (q 1) gD] hj2 hP hD
        have hP : va_P dD vwCl ([zX q g, zP cA (q 3) (zfm qq n), zA cI (q 4) 144 fO, zA cI (q 5) 12 to, zR (q 2) gR, zD (q 1) gD] ++ zPool cI q qq n S C) H := hP
        have hD : va_D A ([zX q g, zP cA (q 3) (zfm qq n), zA cI (q 4) 144 fO, zA cI (q 5) 12 to, zR (q 2) gR, zD (q 1) gD] ++ zPool cI q qq n S C) := hD
        obtain ⟨rfl, rfl, rfl⟩ := z_i3 hsp
        exact hret _ _ ls 38 dX6_lie_38 rfl hP hD hS
def s_X6_cut (g : zF) (fO : zF) (to : zF) (gR : zF) (gD : zF) (S : Nat → Nat → zF) (C : Nat → Option Nat) (n : Nat) (p1 : Int32) (p2 : Int32) : Option (Int32 × (zF) × (Nat → Nat → zF)) := (zat n g (p1) (some (0, gD, S)) fun (j2 : Nat) => zb6 (s_X4_losePower (S j2 0) (S j2 1) (S j2 2) (S j2 3) (S j2 4) gR gD (p2) ((g 7))) fun (gM3 : zF) (gB4 : zF) (mk5 : zF) (mx6 : zF) (gI7 : zF) (gD8 : zF) => zl (va_up S j2 (zs6 gM3 gB4 mk5 mx6 gI7 (S j2 5))) fun (S10 : Nat → Nat → zF) => some (1, gD8, S10))
abbrev rm_X6_cut : Room := { frames := 3, cells := 0, slots := 0, locals := 66 }
set_option maxHeartbeats 4000000 in
set_option maxRecDepth 100000 in
theorem c_X6_cut (l : Launch) (dD : va_G) (cI cA : ClassId) (q : Nat → Nat) (qq : Nat → Nat → Nat) (n : Nat) (hn12 : n ≤ 12) (g : zF) (fO : zF) (to : zF) (gR : zF) (gD : zF) (S : Nat → Nat → zF) (C : Nat → Option Nat) (p1 : Int32) (p2 : Int32) (rv : Int32) (r_gD : zF) (r_S : Nat → Nat → zF) (hsp : s_X6_cut g fO to gR gD S C n p1 p2 = some (rv, r_gD, r_S)) : zMi l yX6_cut wsX6_cut rm_X6_cut dD cI cA [.ref (q 0), .int p1, .int p2] ([zX q g, zP cA (q 3) (zfm qq n), zA cI (q 4) 144 fO, zA cI (q 5) 12 to, zR (q 2) gR, zD (q 1) gD] ++ zPool cI q qq n S C) ([zX q g, zP cA (q 3) (zfm qq n), zA cI (q 4) 144 fO, zA cI (q 5) 12 to, zR (q 2) gR, zD (q 1) r_gD] ++ zPool cI q qq n r_S C) rv := by
  refine zMi_of (cc := cX6_cut) (maxL := 4) (by decide) rfl (Nat.le_of_ble_eq_true rfl) ?_
  intro p e s m args below meth c A Q ls hx hb hml hown hts hK hA hP hD hl hret
  have hown : s.vm.findClass RX6 = some m.cls := hown
  have iX6 : ∀ w ∈ wsX60, w ∈ wsX6_cut := by decide +kernel
  have f75 := hts (.fieldLink RX6 75 "MeshField" "now" "I") (by decide +kernel)
  have hS : va_S A s.heap s.heap [] := va_S.rf
  have hl : lv_has ls 4 [(0, .ref (q 0)), (1, .int p1), (2, .int p2)] := hl
  unfold s_X6_cut at hsp
  refine lv_aload_n hx hb dX6_cut_0 rfl (lv_at hl 0 rfl) ?_
  refine lv_iload_n hx hb dX6_cut_1 rfl (lv_at hl 1 rfl) ?_
  rcases z_at (qq := qq) hn12 hsp with ⟨hc1, hsp⟩ | ⟨j2, hj2, ej2, hc1, hsp⟩
  · refine z_callVq ⟨hx, hb, hml, hown, hts⟩ hK (c_X6_machineAt l dD cI cA q g (zfm qq n) (p1) _ hc1) (cwV 1 hts gX6_cut_X6_machineAt rfl rfl rfl (by decide +kernel) ⟨Nat.le_of_ble_eq_true rfl, Nat.le_of_ble_eq_true rfl⟩) (zJ.ofP (X := [zX q g, zP cA (q 3) (zfm qq n), zA cI (q 4) 144 fO, zA cI (q 5) 12 to, zR (q 2) gR, zD (q 1) gD]) (wc := [zX q g, zP cA (q 3) (zfm qq n)]) (wc1 := [zX q g, zP cA (q 3) (zfm qq n)]) (wr := [zA cI (q 4) 144 fO, zA cI (q 5) 12 to, zR (q 2) gR, zD (q 1) gD]) (w2 := [zX q g, zP cA (q 3) (zfm qq n), zA cI (q 4) 144 fO, zA cI (q 5) 12 to, zR (q 2) gR, zD (q 1) gD]) hP hD hS hA [0, 1] [2, 3, 4, 5] [4, 5, 0, 1, 2, 3] rfl rfl rfl rfl rfl rfl rfl) hS 0 6 rfl rfl rfl rfl hl.1 rfl (Nat.le_of_ble_eq_true rfl) dX6_cut_2 ⟨Nat.zero_le _, Nat.zero_le _⟩ (fun H locs hP hD hS => ?_)
    refine z_topN ?_
    refine lv_astore_nN (lv' := [(3, .null), (0, .ref (q 0)), (1, .int p1), (2, .int p2)]) hx hb dX6_cut_5 rfl hl (by decide) rfl (fun ls hl => ?_)
    refine lv_aload_nN hx hb dX6_cut_6 rfl (lv_at hl 0 rfl) ?_
    refine lv_ifnonnullN hx hb dX6_cut_7 ?_
    refine lv_iconst (v := 0) hx hb dX6_cut_10 (by decide) ?_
    obtain ⟨rfl, rfl, rfl⟩ := z_i3 hsp
    exact hret _ _ ls 11 dX6_cut_11 rfl hP hD hS
  · refine z_callVq ⟨hx, hb, hml, hown, hts⟩ hK (c_X6_machineAt l dD cI cA q g (zfm qq n) (p1) _ hc1) (cwV 1 hts gX6_cut_X6_machineAt rfl rfl rfl (by decide +kernel) ⟨Nat.le_of_ble_eq_true rfl, Nat.le_of_ble_eq_true rfl⟩) (zJ.ofP (X := [zX q g, zP cA (q 3) (zfm qq n), zA cI (q 4) 144 fO, zA cI (q 5) 12 to, zR (q 2) gR, zD (q 1) gD]) (wc := [zX q g, zP cA (q 3) (zfm qq n)]) (wc1 := [zX q g, zP cA (q 3) (zfm qq n)]) (wr := [zA cI (q 4) 144 fO, zA cI (q 5) 12 to, zR (q 2) gR, zD (q 1) gD]) (w2 := [zX q g, zP cA (q 3) (zfm qq n), zA cI (q 4) 144 fO, zA cI (q 5) 12 to, zR (q 2) gR, zD (q 1) gD]) hP hD hS hA [0, 1] [2, 3, 4, 5] [4, 5, 0, 1, 2, 3] rfl rfl rfl rfl rfl rfl rfl) hS 0 6 rfl rfl rfl rfl hl.1 rfl (Nat.le_of_ble_eq_true rfl) dX6_cut_2 ⟨Nat.zero_le _, Nat.zero_le _⟩ (fun H locs hP hD hS => ?_)
    refine z_topR ?_
    refine lv_astore_n (lv' := [(3, .ref (qq j2 0)), (0, .ref (q 0)), (1, .int p1), (2, .int p2)]) hx hb dX6_cut_5 rfl hl (by decide) rfl (fun ls hl => ?_)
    refine lv_aload_n hx hb dX6_cut_6 rfl (lv_at hl 0 rfl) ?_
    refine lv_ifnonnull (tgt := 12) hx hb dX6_cut_7 (by decide) ?_
    refine lv_aload_n hx hb dX6_cut_12 rfl (lv_at hl 0 rfl) ?_
    refine lv_iload_n hx hb dX6_cut_13 rfl (lv_at hl 3 rfl) ?_
    refine lv_aload_n hx hb dX6_cut_14 rfl (lv_at hl 1 rfl) ?_
    refine va_get (D := dD) (ci := 6) (v := .int (g 7)) (C := RX6) (T := TX6) (N := 10) hx hb hts iX6 hown hK.1 hP 0 rfl rfl 7 (by decide) f75 (fun _ h9 => h9) rfl dX6_cut_15 ?_
    obtain ⟨hP, hD⟩ := z_foc (fx := [zX q g, zP cA (q 3) (zfm qq n), zA cI (q 4) 144 fO, zA cI (q 5) 12 to, zR (q 2) gR, zD (q 1) gD]) hj2 hP hD
    have hP : va_P dD vwCl ([zX q g, zP cA (q 3) (zfm qq n), zA cI (q 4) 144 fO, zA cI (q 5) 12 to, zR (q 2) gR, zD (q 1) gD, zM (qq j2) (q 2) (q 1) (zad qq (C j2)) (S j2 0), zB (qq j2) (S j2 1), zA cI (qq j2 2) 12 (S j2 2), zA cI (qq j2 3) 12 (S j2 3), zI (qq j2) (S j2 4), zL (qq j2 5) (S j2 5)] ++ zRest cI q qq n j2 S C) H := hP
    have hD : va_D A ([zX q g, zP cA (q 3) (zfm qq n), zA cI (q 4) 144 fO, zA cI (q 5) 12 to, zR (q 2) gR, zD (q 1) gD, zM (qq j2) (q 2) (q 1) (zad qq (C j2)) (S j2 0), zB (qq j2) (S j2 1), zA cI (qq j2 2) 12 (S j2 2), zA cI (qq j2 3) 12 (S j2 3), zI (qq j2) (S j2 4), zL (qq j2 5) (S j2 5)] ++ zRest cI q qq n j2 S C) := hD
    obtain ⟨gM3, gB4, mk5, mx6, gI7, gD8, hc9, hsp⟩ := z_b6 hsp
    refine z_callVv ⟨hx, hb, hml, hown, hts⟩ hK (c_X4_losePower l dD cI cA (qq j2) (q 2) (q 1) (zad qq (C j2)) (S j2 0) (S j2 1) (S j2 2) (S j2 3) (S j2 4) gR gD (p2) ((g 7)) gM3 gB4 mk5 mx6 gI7 gD8 hc9) (cwV 2 hts gX6_cut_X4_losePower rfl rfl rfl (by decide +kernel) ⟨Nat.le_of_ble_eq_true rfl, Nat.le_of_ble_eq_true rfl⟩) (zJ.ofP (X := [zX q g, zP cA (q 3) (zfm qq n), zA cI (q 4) 144 fO, zA cI (q 5) 12 to, zR (q 2) gR, zD (q 1) gD, zM (qq j2) (q 2) (q 1) (zad qq (C j2)) (S j2 0), zB (qq j2) (S j2 1), zA cI (qq j2 2) 12 (S j2 2), zA cI (qq j2 3) 12 (S j2 3), zI (qq j2) (S j2 4), zL (qq j2 5) (S j2 5)]) (wc := [zM (qq j2) (q 2) (q 1) (zad qq (C j2)) (S j2 0), zB (qq j2) (S j2 1), zA cI (qq j2 2) 12 (S j2 2), zA cI (qq j2 3) 12 (S j2 3), zI (qq j2) (S j2 4), zR (q 2) gR, zD (q 1) gD]) (wc1 := [zM (qq j2) (q 2) (q 1) (zad qq (C j2)) gM3, zB (qq j2) gB4, zA cI (qq j2 2) 12 mk5, zA cI (qq j2 3) 12 mx6, zI (qq j2) gI7, zR (q 2) gR, zD (q 1) gD8]) (wr := [zX q g, zP cA (q 3) (zfm qq n), zA cI (q 4) 144 fO, zA cI (q 5) 12 to, zL (qq j2 5) (S j2 5)]) (w2 := [zX q g, zP cA (q 3) (zfm qq n), zA cI (q 4) 144 fO, zA cI (q 5) 12 to, zR (q 2) gR, zD (q 1) gD8, zM (qq j2) (q 2) (q 1) (zad qq (C j2)) gM3, zB (qq j2) gB4, zA cI (qq j2 2) 12 mk5, zA cI (qq j2 3) 12 mx6, zI (qq j2) gI7, zL (qq j2 5) (S j2 5)]) hP hD hS hA [6, 7, 8, 9, 10, 4, 5] [0, 1, 2, 3, 11] [0, 1, 2, 3, 10, 11, 5, 6, 7, 8, 9, 4] rfl rfl rfl rfl rfl rfl rfl) hS 0 4 rfl rfl rfl rfl hl.1 rfl (Nat.le_of_ble_eq_true rfl) dX6_cut_18 ⟨Nat.zero_le _, Nat.zero_le _⟩ (fun H locs hP hD hS => ?_)
    refine lv_iconst (v := 1) hx hb dX6_cut_21 (by decide) ?_
    obtain ⟨S10, eS10, hsp⟩ := z_lt hsp
    obtain ⟨hP, hD⟩ := z_unfS [zX q g, zP cA (q 3) (zfm qq n), zA cI (q 4) 144 fO, zA cI (q 5) 12 to, zR (q 2) gR, zD (q 1) gD8] (gM := gM3) (gB := gB4) (mk := mk5) (mx := mx6) (gI := gI7) (gL := (S j2 5)) hj2 hP hD
    rw [← eS10] at hP hD
    have hP : va_P dD vwCl ([zX q g, zP cA (q 3) (zfm qq n), zA cI (q 4) 144 fO, zA cI (q 5) 12 to, zR (q 2) gR, zD (q 1) gD8] ++ zPool cI q qq n S10 C) H := hP
    have hD : va_D A ([zX q g, zP cA (q 3) (zfm qq n), zA cI (q 4) 144 fO, zA cI (q 5) 12 to, zR (q 2) gR, zD (q 1) gD8] ++ zPool cI q qq n S10 C) := hD
    obtain ⟨rfl, rfl, rfl⟩ := z_i3 hsp
    exact hret _ _ ls 22 dX6_cut_22 rfl hP hD hS
def s_X6_machineOf (g : zF) (fO : zF) (to : zF) (gR : zF) (gD : zF) (S : Nat → Nat → zF) (C : Nat → Option Nat) (n : Nat) (p1 : Int32) (p2 : Int32) : Option Int32 := (zat n g (p1) (some ((-1))) fun (j2 : Nat) => (if p2 < 100 then zb1 (s_X4_answer (S j2 0) (S j2 1) (S j2 4) (p2)) fun (v4 : Int32) => some (v4) else zb1 (s_X0_maskOfNth (S j2 1) (S j2 2) ((p2 - 100))) fun (v6 : Int32) => some (v6)))
abbrev rm_X6_machineOf : Room := { frames := 2, cells := 0, slots := 0, locals := 45 }
set_option maxHeartbeats 4000000 in
set_option maxRecDepth 100000 in
theorem c_X6_machineOf (l : Launch) (dD : va_G) (cI cA : ClassId) (q : Nat → Nat) (qq : Nat → Nat → Nat) (n : Nat) (hn12 : n ≤ 12) (g : zF) (fO : zF) (to : zF) (gR : zF) (gD : zF) (S : Nat → Nat → zF) (C : Nat → Option Nat) (p1 : Int32) (p2 : Int32) (rv : Int32) (hsp : s_X6_machineOf g fO to gR gD S C n p1 p2 = some rv) : zMi l yX6_machineOf wsX6_machineOf rm_X6_machineOf dD cI cA [.ref (q 0), .int p1, .int p2] ([zX q g, zP cA (q 3) (zfm qq n), zA cI (q 4) 144 fO, zA cI (q 5) 12 to, zR (q 2) gR, zD (q 1) gD] ++ zPool cI q qq n S C) ([zX q g, zP cA (q 3) (zfm qq n), zA cI (q 4) 144 fO, zA cI (q 5) 12 to, zR (q 2) gR, zD (q 1) gD] ++ zPool cI q qq n S C) rv := by
  refine zMi_of (cc := cX6_machineOf) (maxL := 4) (by decide) rfl (Nat.le_of_ble_eq_true rfl) ?_
  intro p e s m args below meth c A Q ls hx hb hml hown hts hK hA hP hD hl hret
  have hown : s.vm.findClass RX6 = some m.cls := hown
  have iX4 : ∀ w ∈ wsX40, w ∈ wsX6_machineOf := by decide +kernel
  have f109 : (Cond.fieldLinkNest RX6 109 "MeshField$Machine" "basis" "LMeshField$Basis;" "MeshField").before args s = true := hK.nw (by decide +kernel)
  have hS : va_S A s.heap s.heap [] := va_S.rf
  have hl : lv_has ls 4 [(0, .ref (q 0)), (1, .int p1), (2, .int p2)] := hl
  unfold s_X6_machineOf at hsp
  refine lv_aload_n hx hb dX6_machineOf_0 rfl (lv_at hl 0 rfl) ?_
  refine lv_iload_n hx hb dX6_machineOf_1 rfl (lv_at hl 1 rfl) ?_
  rcases z_at (qq := qq) hn12 hsp with ⟨hc1, hsp⟩ | ⟨j2, hj2, ej2, hc1, hsp⟩
  · refine z_callVq ⟨hx, hb, hml, hown, hts⟩ hK (c_X6_machineAt l dD cI cA q g (zfm qq n) (p1) _ hc1) (cwV 1 hts gX6_machineOf_X6_machineAt rfl rfl rfl (by decide +kernel) ⟨Nat.le_of_ble_eq_true rfl, Nat.le_of_ble_eq_true rfl⟩) (zJ.ofP (X := [zX q g, zP cA (q 3) (zfm qq n), zA cI (q 4) 144 fO, zA cI (q 5) 12 to, zR (q 2) gR, zD (q 1) gD]) (wc := [zX q g, zP cA (q 3) (zfm qq n)]) (wc1 := [zX q g, zP cA (q 3) (zfm qq n)]) (wr := [zA cI (q 4) 144 fO, zA cI (q 5) 12 to, zR (q 2) gR, zD (q 1) gD]) (w2 := [zX q g, zP cA (q 3) (zfm qq n), zA cI (q 4) 144 fO, zA cI (q 5) 12 to, zR (q 2) gR, zD (q 1) gD]) hP hD hS hA [0, 1] [2, 3, 4, 5] [4, 5, 0, 1, 2, 3] rfl rfl rfl rfl rfl rfl rfl) hS 0 6 rfl rfl rfl rfl hl.1 rfl (Nat.le_of_ble_eq_true rfl) dX6_machineOf_2 ⟨Nat.zero_le _, Nat.zero_le _⟩ (fun H locs hP hD hS => ?_)
    refine z_topN ?_
    refine lv_astore_nN (lv' := [(3, .null), (0, .ref (q 0)), (1, .int p1), (2, .int p2)]) hx hb dX6_machineOf_5 rfl hl (by decide) rfl (fun ls hl => ?_)
    refine lv_aload_nN hx hb dX6_machineOf_6 rfl (lv_at hl 0 rfl) ?_
    refine lv_ifnonnullN hx hb dX6_machineOf_7 ?_
    refine lv_iconst (v := (-1)) hx hb dX6_machineOf_10 (by decide) ?_
    obtain rfl := Option.some.inj hsp
    exact hret _ _ ls 11 dX6_machineOf_11 rfl hP hD hS
  · refine z_callVq ⟨hx, hb, hml, hown, hts⟩ hK (c_X6_machineAt l dD cI cA q g (zfm qq n) (p1) _ hc1) (cwV 1 hts gX6_machineOf_X6_machineAt rfl rfl rfl (by decide +kernel) ⟨Nat.le_of_ble_eq_true rfl, Nat.le_of_ble_eq_true rfl⟩) (zJ.ofP (X := [zX q g, zP cA (q 3) (zfm qq n), zA cI (q 4) 144 fO, zA cI (q 5) 12 to, zR (q 2) gR, zD (q 1) gD]) (wc := [zX q g, zP cA (q 3) (zfm qq n)]) (wc1 := [zX q g, zP cA (q 3) (zfm qq n)]) (wr := [zA cI (q 4) 144 fO, zA cI (q 5) 12 to, zR (q 2) gR, zD (q 1) gD]) (w2 := [zX q g, zP cA (q 3) (zfm qq n), zA cI (q 4) 144 fO, zA cI (q 5) 12 to, zR (q 2) gR, zD (q 1) gD]) hP hD hS hA [0, 1] [2, 3, 4, 5] [4, 5, 0, 1, 2, 3] rfl rfl rfl rfl rfl rfl rfl) hS 0 6 rfl rfl rfl rfl hl.1 rfl (Nat.le_of_ble_eq_true rfl) dX6_machineOf_2 ⟨Nat.zero_le _, Nat.zero_le _⟩ (fun H locs hP hD hS => ?_)
    refine z_topR ?_
    refine lv_astore_n (lv' := [(3, .ref (qq j2 0)), (0, .ref (q 0)), (1, .int p1), (2, .int p2)]) hx hb dX6_machineOf_5 rfl hl (by decide) rfl (fun ls hl => ?_)
    refine lv_aload_n hx hb dX6_machineOf_6 rfl (lv_at hl 0 rfl) ?_
    refine lv_ifnonnull (tgt := 12) hx hb dX6_machineOf_7 (by decide) ?_
    refine lv_iload_n hx hb dX6_machineOf_12 rfl (lv_at hl 3 rfl) ?_
    refine lv_bipush (v := 100) hx hb dX6_machineOf_13 (by decide) ?_
    refine lv_icmp_lt (tgt := 30) hx hb dX6_machineOf_15 (by decide) (fun c3 => ?_) (fun c3 => ?_)
    · have hsp := z_t c3 hsp
      refine lv_aload_n hx hb dX6_machineOf_30 rfl (lv_at hl 0 rfl) ?_
      refine lv_iload_n hx hb dX6_machineOf_31 rfl (lv_at hl 3 rfl) ?_
      obtain ⟨hP, hD⟩ := z_foc (fx := [zX q g, zP cA (q 3) (zfm qq n), zA cI (q 4) 144 fO, zA cI (q 5) 12 to, zR (q 2) gR, zD (q 1) gD]) hj2 hP hD
      have hP : va_P dD vwCl ([zX q g, zP cA (q 3) (zfm qq n), zA cI (q 4) 144 fO, zA cI (q 5) 12 to, zR (q 2) gR, zD (q 1) gD, zM (qq j2) (q 2) (q 1) (zad qq (C j2)) (S j2 0), zB (qq j2) (S j2 1), zA cI (qq j2 2) 12 (S j2 2), zA cI (qq j2 3) 12 (S j2 3), zI (qq j2) (S j2 4), zL (qq j2 5) (S j2 5)] ++ zRest cI q qq n j2 S C) H := hP
      have hD : va_D A ([zX q g, zP cA (q 3) (zfm qq n), zA cI (q 4) 144 fO, zA cI (q 5) 12 to, zR (q 2) gR, zD (q 1) gD, zM (qq j2) (q 2) (q 1) (zad qq (C j2)) (S j2 0), zB (qq j2) (S j2 1), zA cI (qq j2 2) 12 (S j2 2), zA cI (qq j2 3) 12 (S j2 3), zI (qq j2) (S j2 4), zL (qq j2 5) (S j2 5)] ++ zRest cI q qq n j2 S C) := hD
      obtain ⟨v4, hc5, hsp⟩ := z_b1 hsp
      refine z_callVi ⟨hx, hb, hml, hown, hts⟩ hK (c_X4_answer l dD cI cA (qq j2) (q 2) (q 1) (zad qq (C j2)) (S j2 0) (S j2 1) (S j2 4) (p2) v4 hc5) (cwV 1 hts gX6_machineOf_X4_answer rfl rfl rfl (by decide +kernel) ⟨Nat.le_of_ble_eq_true rfl, Nat.le_of_ble_eq_true rfl⟩) (zJ.ofP (X := [zX q g, zP cA (q 3) (zfm qq n), zA cI (q 4) 144 fO, zA cI (q 5) 12 to, zR (q 2) gR, zD (q 1) gD, zM (qq j2) (q 2) (q 1) (zad qq (C j2)) (S j2 0), zB (qq j2) (S j2 1), zA cI (qq j2 2) 12 (S j2 2), zA cI (qq j2 3) 12 (S j2 3), zI (qq j2) (S j2 4), zL (qq j2 5) (S j2 5)]) (wc := [zM (qq j2) (q 2) (q 1) (zad qq (C j2)) (S j2 0), zB (qq j2) (S j2 1), zI (qq j2) (S j2 4)]) (wc1 := [zM (qq j2) (q 2) (q 1) (zad qq (C j2)) (S j2 0), zB (qq j2) (S j2 1), zI (qq j2) (S j2 4)]) (wr := [zX q g, zP cA (q 3) (zfm qq n), zA cI (q 4) 144 fO, zA cI (q 5) 12 to, zR (q 2) gR, zD (q 1) gD, zA cI (qq j2 2) 12 (S j2 2), zA cI (qq j2 3) 12 (S j2 3), zL (qq j2 5) (S j2 5)]) (w2 := [zX q g, zP cA (q 3) (zfm qq n), zA cI (q 4) 144 fO, zA cI (q 5) 12 to, zR (q 2) gR, zD (q 1) gD, zM (qq j2) (q 2) (q 1) (zad qq (C j2)) (S j2 0), zB (qq j2) (S j2 1), zA cI (qq j2 2) 12 (S j2 2), zA cI (qq j2 3) 12 (S j2 3), zI (qq j2) (S j2 4), zL (qq j2 5) (S j2 5)]) hP hD hS hA [6, 7, 10] [0, 1, 2, 3, 4, 5, 8, 9, 11] [0, 1, 2, 3, 4, 5, 9, 10, 6, 7, 11, 8] rfl rfl rfl rfl rfl rfl rfl) hS 0 4 rfl rfl rfl rfl hl.1 rfl (Nat.le_of_ble_eq_true rfl) dX6_machineOf_32 ⟨Nat.zero_le _, Nat.zero_le _⟩ (fun H locs hP hD hS => ?_)
      obtain ⟨hP, hD⟩ := z_unf0 [zX q g, zP cA (q 3) (zfm qq n), zA cI (q 4) 144 fO, zA cI (q 5) 12 to, zR (q 2) gR, zD (q 1) gD] hj2 hP hD
      have hP : va_P dD vwCl ([zX q g, zP cA (q 3) (zfm qq n), zA cI (q 4) 144 fO, zA cI (q 5) 12 to, zR (q 2) gR, zD (q 1) gD] ++ zPool cI q qq n S C) H := hP
      have hD : va_D A ([zX q g, zP cA (q 3) (zfm qq n), zA cI (q 4) 144 fO, zA cI (q 5) 12 to, zR (q 2) gR, zD (q 1) gD] ++ zPool cI q qq n S C) := hD
      obtain rfl := Option.some.inj hsp
      exact hret _ _ ls 35 dX6_machineOf_35 rfl hP hD hS
    · have hsp := z_f c3 hsp
      refine lv_aload_n hx hb dX6_machineOf_18 rfl (lv_at hl 0 rfl) ?_
      obtain ⟨hP, hD⟩ := z_foc (fx := [zX q g, zP cA (q 3) (zfm qq n), zA cI (q 4) 144 fO, zA cI (q 5) 12 to, zR (q 2) gR, zD (q 1) gD]) hj2 hP hD
      have hP : va_P dD vwCl ([zX q g, zP cA (q 3) (zfm qq n), zA cI (q 4) 144 fO, zA cI (q 5) 12 to, zR (q 2) gR, zD (q 1) gD, zM (qq j2) (q 2) (q 1) (zad qq (C j2)) (S j2 0), zB (qq j2) (S j2 1), zA cI (qq j2 2) 12 (S j2 2), zA cI (qq j2 3) 12 (S j2 3), zI (qq j2) (S j2 4), zL (qq j2 5) (S j2 5)] ++ zRest cI q qq n j2 S C) H := hP
      have hD : va_D A ([zX q g, zP cA (q 3) (zfm qq n), zA cI (q 4) 144 fO, zA cI (q 5) 12 to, zR (q 2) gR, zD (q 1) gD, zM (qq j2) (q 2) (q 1) (zad qq (C j2)) (S j2 0), zB (qq j2) (S j2 1), zA cI (qq j2 2) 12 (S j2 2), zA cI (qq j2 3) 12 (S j2 3), zI (qq j2) (S j2 4), zL (qq j2 5) (S j2 5)] ++ zRest cI q qq n j2 S C) := hD
      refine va_getN (D := dD) (ci := 4) (v := .ref (qq j2 1)) (C := RX4) (T := TX4) (N := 18) hx hb hts iX4 hown hK.1 hP 6 rfl rfl 2 (by decide) f109 (fun _ h9 => h9) rfl dX6_machineOf_19 ?_
      refine lv_iload_n hx hb dX6_machineOf_22 rfl (lv_at hl 3 rfl) ?_
      refine lv_bipush (v := 100) hx hb dX6_machineOf_23 (by decide) ?_
      refine lv_isub hx hb dX6_machineOf_25 ?_
      obtain ⟨v6, hc7, hsp⟩ := z_b1 hsp
      refine z_callVi ⟨hx, hb, hml, hown, hts⟩ hK (c_X0_maskOfNth l dD cI cA (qq j2) (S j2 1) (S j2 2) ((p2 - 100)) v6 hc7) (cwV 1 hts gX6_machineOf_X0_maskOfNth rfl rfl rfl (by decide +kernel) ⟨Nat.le_of_ble_eq_true rfl, Nat.le_of_ble_eq_true rfl⟩) (zJ.ofP (X := [zX q g, zP cA (q 3) (zfm qq n), zA cI (q 4) 144 fO, zA cI (q 5) 12 to, zR (q 2) gR, zD (q 1) gD, zM (qq j2) (q 2) (q 1) (zad qq (C j2)) (S j2 0), zB (qq j2) (S j2 1), zA cI (qq j2 2) 12 (S j2 2), zA cI (qq j2 3) 12 (S j2 3), zI (qq j2) (S j2 4), zL (qq j2 5) (S j2 5)]) (wc := [zB (qq j2) (S j2 1), zA cI (qq j2 2) 12 (S j2 2)]) (wc1 := [zB (qq j2) (S j2 1), zA cI (qq j2 2) 12 (S j2 2)]) (wr := [zX q g, zP cA (q 3) (zfm qq n), zA cI (q 4) 144 fO, zA cI (q 5) 12 to, zR (q 2) gR, zD (q 1) gD, zM (qq j2) (q 2) (q 1) (zad qq (C j2)) (S j2 0), zA cI (qq j2 3) 12 (S j2 3), zI (qq j2) (S j2 4), zL (qq j2 5) (S j2 5)]) (w2 := [zX q g, zP cA (q 3) (zfm qq n), zA cI (q 4) 144 fO, zA cI (q 5) 12 to, zR (q 2) gR, zD (q 1) gD, zM (qq j2) (q 2) (q 1) (zad qq (C j2)) (S j2 0), zB (qq j2) (S j2 1), zA cI (qq j2 2) 12 (S j2 2), zA cI (qq j2 3) 12 (S j2 3), zI (qq j2) (S j2 4), zL (qq j2 5) (S j2 5)]) hP hD hS hA [7, 8] [0, 1, 2, 3, 4, 5, 6, 9, 10, 11] [0, 1, 2, 3, 4, 5, 6, 10, 11, 7, 8, 9] rfl rfl rfl rfl rfl rfl rfl) hS 0 0 rfl rfl rfl rfl hl.1 rfl (Nat.le_of_ble_eq_true rfl) dX6_machineOf_26 ⟨Nat.zero_le _, Nat.zero_le _⟩ (fun H locs hP hD hS => ?_)
      obtain ⟨hP, hD⟩ := z_unf0 [zX q g, zP cA (q 3) (zfm qq n), zA cI (q 4) 144 fO, zA cI (q 5) 12 to, zR (q 2) gR, zD (q 1) gD] hj2 hP hD
      have hP : va_P dD vwCl ([zX q g, zP cA (q 3) (zfm qq n), zA cI (q 4) 144 fO, zA cI (q 5) 12 to, zR (q 2) gR, zD (q 1) gD] ++ zPool cI q qq n S C) H := hP
      have hD : va_D A ([zX q g, zP cA (q 3) (zfm qq n), zA cI (q 4) 144 fO, zA cI (q 5) 12 to, zR (q 2) gR, zD (q 1) gD] ++ zPool cI q qq n S C) := hD
      obtain rfl := Option.some.inj hsp
      exact hret _ _ ls 29 dX6_machineOf_29 rfl hP hD hS
def s_X6_data (g : zF) (fO : zF) (to : zF) (gR : zF) (gD : zF) (S : Nat → Nat → zF) (C : Nat → Option Nat) (n : Nat) (p1 : Int32) (p2 : Int32) : Option Int32 := (zat n g (p1) (some (0)) fun (j2 : Nat) => zb1 (s_X0_dataOfNth (S j2 1) (S j2 2) (S j2 3) (p2)) fun (v3 : Int32) => some (v3))
abbrev rm_X6_data : Room := { frames := 2, cells := 0, slots := 0, locals := 45 }
set_option maxHeartbeats 4000000 in
set_option maxRecDepth 100000 in
theorem c_X6_data (l : Launch) (dD : va_G) (cI cA : ClassId) (q : Nat → Nat) (qq : Nat → Nat → Nat) (n : Nat) (hn12 : n ≤ 12) (g : zF) (fO : zF) (to : zF) (gR : zF) (gD : zF) (S : Nat → Nat → zF) (C : Nat → Option Nat) (p1 : Int32) (p2 : Int32) (rv : Int32) (hsp : s_X6_data g fO to gR gD S C n p1 p2 = some rv) : zMi l yX6_data wsX6_data rm_X6_data dD cI cA [.ref (q 0), .int p1, .int p2] ([zX q g, zP cA (q 3) (zfm qq n), zA cI (q 4) 144 fO, zA cI (q 5) 12 to, zR (q 2) gR, zD (q 1) gD] ++ zPool cI q qq n S C) ([zX q g, zP cA (q 3) (zfm qq n), zA cI (q 4) 144 fO, zA cI (q 5) 12 to, zR (q 2) gR, zD (q 1) gD] ++ zPool cI q qq n S C) rv := by
  refine zMi_of (cc := cX6_data) (maxL := 4) (by decide) rfl (Nat.le_of_ble_eq_true rfl) ?_
  intro p e s m args below meth c A Q ls hx hb hml hown hts hK hA hP hD hl hret
  have hown : s.vm.findClass RX6 = some m.cls := hown
  have iX4 : ∀ w ∈ wsX40, w ∈ wsX6_data := by decide +kernel
  have f109 : (Cond.fieldLinkNest RX6 109 "MeshField$Machine" "basis" "LMeshField$Basis;" "MeshField").before args s = true := hK.nw (by decide +kernel)
  have hS : va_S A s.heap s.heap [] := va_S.rf
  have hl : lv_has ls 4 [(0, .ref (q 0)), (1, .int p1), (2, .int p2)] := hl
  unfold s_X6_data at hsp
  refine lv_aload_n hx hb dX6_data_0 rfl (lv_at hl 0 rfl) ?_
  refine lv_iload_n hx hb dX6_data_1 rfl (lv_at hl 1 rfl) ?_
  rcases z_at (qq := qq) hn12 hsp with ⟨hc1, hsp⟩ | ⟨j2, hj2, ej2, hc1, hsp⟩
  · refine z_callVq ⟨hx, hb, hml, hown, hts⟩ hK (c_X6_machineAt l dD cI cA q g (zfm qq n) (p1) _ hc1) (cwV 1 hts gX6_data_X6_machineAt rfl rfl rfl (by decide +kernel) ⟨Nat.le_of_ble_eq_true rfl, Nat.le_of_ble_eq_true rfl⟩) (zJ.ofP (X := [zX q g, zP cA (q 3) (zfm qq n), zA cI (q 4) 144 fO, zA cI (q 5) 12 to, zR (q 2) gR, zD (q 1) gD]) (wc := [zX q g, zP cA (q 3) (zfm qq n)]) (wc1 := [zX q g, zP cA (q 3) (zfm qq n)]) (wr := [zA cI (q 4) 144 fO, zA cI (q 5) 12 to, zR (q 2) gR, zD (q 1) gD]) (w2 := [zX q g, zP cA (q 3) (zfm qq n), zA cI (q 4) 144 fO, zA cI (q 5) 12 to, zR (q 2) gR, zD (q 1) gD]) hP hD hS hA [0, 1] [2, 3, 4, 5] [4, 5, 0, 1, 2, 3] rfl rfl rfl rfl rfl rfl rfl) hS 0 6 rfl rfl rfl rfl hl.1 rfl (Nat.le_of_ble_eq_true rfl) dX6_data_2 ⟨Nat.zero_le _, Nat.zero_le _⟩ (fun H locs hP hD hS => ?_)
    refine z_topN ?_
    refine lv_astore_nN (lv' := [(3, .null), (0, .ref (q 0)), (1, .int p1), (2, .int p2)]) hx hb dX6_data_5 rfl hl (by decide) rfl (fun ls hl => ?_)
    refine lv_aload_nN hx hb dX6_data_6 rfl (lv_at hl 0 rfl) ?_
    refine lv_ifnonnullN hx hb dX6_data_7 ?_
    refine lv_iconst (v := 0) hx hb dX6_data_10 (by decide) ?_
    refine lv_goto (tgt := 22) hx hb dX6_data_11 (by decide) ?_
    obtain rfl := Option.some.inj hsp
    exact hret _ _ ls 22 dX6_data_22 rfl hP hD hS
  · refine z_callVq ⟨hx, hb, hml, hown, hts⟩ hK (c_X6_machineAt l dD cI cA q g (zfm qq n) (p1) _ hc1) (cwV 1 hts gX6_data_X6_machineAt rfl rfl rfl (by decide +kernel) ⟨Nat.le_of_ble_eq_true rfl, Nat.le_of_ble_eq_true rfl⟩) (zJ.ofP (X := [zX q g, zP cA (q 3) (zfm qq n), zA cI (q 4) 144 fO, zA cI (q 5) 12 to, zR (q 2) gR, zD (q 1) gD]) (wc := [zX q g, zP cA (q 3) (zfm qq n)]) (wc1 := [zX q g, zP cA (q 3) (zfm qq n)]) (wr := [zA cI (q 4) 144 fO, zA cI (q 5) 12 to, zR (q 2) gR, zD (q 1) gD]) (w2 := [zX q g, zP cA (q 3) (zfm qq n), zA cI (q 4) 144 fO, zA cI (q 5) 12 to, zR (q 2) gR, zD (q 1) gD]) hP hD hS hA [0, 1] [2, 3, 4, 5] [4, 5, 0, 1, 2, 3] rfl rfl rfl rfl rfl rfl rfl) hS 0 6 rfl rfl rfl rfl hl.1 rfl (Nat.le_of_ble_eq_true rfl) dX6_data_2 ⟨Nat.zero_le _, Nat.zero_le _⟩ (fun H locs hP hD hS => ?_)
    refine z_topR ?_
    refine lv_astore_n (lv' := [(3, .ref (qq j2 0)), (0, .ref (q 0)), (1, .int p1), (2, .int p2)]) hx hb dX6_data_5 rfl hl (by decide) rfl (fun ls hl => ?_)
    refine lv_aload_n hx hb dX6_data_6 rfl (lv_at hl 0 rfl) ?_
    refine lv_ifnonnull (tgt := 14) hx hb dX6_data_7 (by decide) ?_
    refine lv_aload_n hx hb dX6_data_14 rfl (lv_at hl 0 rfl) ?_
    obtain ⟨hP, hD⟩ := z_foc (fx := [zX q g, zP cA (q 3) (zfm qq n), zA cI (q 4) 144 fO, zA cI (q 5) 12 to, zR (q 2) gR, zD (q 1) gD]) hj2 hP hD
    have hP : va_P dD vwCl ([zX q g, zP cA (q 3) (zfm qq n), zA cI (q 4) 144 fO, zA cI (q 5) 12 to, zR (q 2) gR, zD (q 1) gD, zM (qq j2) (q 2) (q 1) (zad qq (C j2)) (S j2 0), zB (qq j2) (S j2 1), zA cI (qq j2 2) 12 (S j2 2), zA cI (qq j2 3) 12 (S j2 3), zI (qq j2) (S j2 4), zL (qq j2 5) (S j2 5)] ++ zRest cI q qq n j2 S C) H := hP
    have hD : va_D A ([zX q g, zP cA (q 3) (zfm qq n), zA cI (q 4) 144 fO, zA cI (q 5) 12 to, zR (q 2) gR, zD (q 1) gD, zM (qq j2) (q 2) (q 1) (zad qq (C j2)) (S j2 0), zB (qq j2) (S j2 1), zA cI (qq j2 2) 12 (S j2 2), zA cI (qq j2 3) 12 (S j2 3), zI (qq j2) (S j2 4), zL (qq j2 5) (S j2 5)] ++ zRest cI q qq n j2 S C) := hD
    refine va_getN (D := dD) (ci := 4) (v := .ref (qq j2 1)) (C := RX4) (T := TX4) (N := 18) hx hb hts iX4 hown hK.1 hP 6 rfl rfl 2 (by decide) f109 (fun _ h9 => h9) rfl dX6_data_15 ?_
    refine lv_iload_n hx hb dX6_data_18 rfl (lv_at hl 3 rfl) ?_
    obtain ⟨v3, hc4, hsp⟩ := z_b1 hsp
    refine z_callVi ⟨hx, hb, hml, hown, hts⟩ hK (c_X0_dataOfNth l dD cI cA (qq j2) (S j2 1) (S j2 2) (S j2 3) (p2) v3 hc4) (cwV 1 hts gX6_data_X0_dataOfNth rfl rfl rfl (by decide +kernel) ⟨Nat.le_of_ble_eq_true rfl, Nat.le_of_ble_eq_true rfl⟩) (zJ.ofP (X := [zX q g, zP cA (q 3) (zfm qq n), zA cI (q 4) 144 fO, zA cI (q 5) 12 to, zR (q 2) gR, zD (q 1) gD, zM (qq j2) (q 2) (q 1) (zad qq (C j2)) (S j2 0), zB (qq j2) (S j2 1), zA cI (qq j2 2) 12 (S j2 2), zA cI (qq j2 3) 12 (S j2 3), zI (qq j2) (S j2 4), zL (qq j2 5) (S j2 5)]) (wc := [zB (qq j2) (S j2 1), zA cI (qq j2 2) 12 (S j2 2), zA cI (qq j2 3) 12 (S j2 3)]) (wc1 := [zB (qq j2) (S j2 1), zA cI (qq j2 2) 12 (S j2 2), zA cI (qq j2 3) 12 (S j2 3)]) (wr := [zX q g, zP cA (q 3) (zfm qq n), zA cI (q 4) 144 fO, zA cI (q 5) 12 to, zR (q 2) gR, zD (q 1) gD, zM (qq j2) (q 2) (q 1) (zad qq (C j2)) (S j2 0), zI (qq j2) (S j2 4), zL (qq j2 5) (S j2 5)]) (w2 := [zX q g, zP cA (q 3) (zfm qq n), zA cI (q 4) 144 fO, zA cI (q 5) 12 to, zR (q 2) gR, zD (q 1) gD, zM (qq j2) (q 2) (q 1) (zad qq (C j2)) (S j2 0), zB (qq j2) (S j2 1), zA cI (qq j2 2) 12 (S j2 2), zA cI (qq j2 3) 12 (S j2 3), zI (qq j2) (S j2 4), zL (qq j2 5) (S j2 5)]) hP hD hS hA [7, 8, 9] [0, 1, 2, 3, 4, 5, 6, 10, 11] [0, 1, 2, 3, 4, 5, 6, 9, 10, 11, 7, 8] rfl rfl rfl rfl rfl rfl rfl) hS 0 0 rfl rfl rfl rfl hl.1 rfl (Nat.le_of_ble_eq_true rfl) dX6_data_19 ⟨Nat.zero_le _, Nat.zero_le _⟩ (fun H locs hP hD hS => ?_)
    obtain ⟨hP, hD⟩ := z_unf0 [zX q g, zP cA (q 3) (zfm qq n), zA cI (q 4) 144 fO, zA cI (q 5) 12 to, zR (q 2) gR, zD (q 1) gD] hj2 hP hD
    have hP : va_P dD vwCl ([zX q g, zP cA (q 3) (zfm qq n), zA cI (q 4) 144 fO, zA cI (q 5) 12 to, zR (q 2) gR, zD (q 1) gD] ++ zPool cI q qq n S C) H := hP
    have hD : va_D A ([zX q g, zP cA (q 3) (zfm qq n), zA cI (q 4) 144 fO, zA cI (q 5) 12 to, zR (q 2) gR, zD (q 1) gD] ++ zPool cI q qq n S C) := hD
    obtain rfl := Option.some.inj hsp
    exact hret _ _ ls 22 dX6_data_22 rfl hP hD hS
def s_X6_sum (g : zF) (fO : zF) (to : zF) (gR : zF) (gD : zF) (S : Nat → Nat → zF) (C : Nat → Option Nat) (n : Nat) (p1 : Int32) : Option Int32 := (zat n g (p1) (some (0)) fun (j2 : Nat) => some (((S j2 0) 8)))
abbrev rm_X6_sum : Room := { frames := 1, cells := 0, slots := 0, locals := 21 }
set_option maxHeartbeats 4000000 in
set_option maxRecDepth 100000 in
theorem c_X6_sum (l : Launch) (dD : va_G) (cI cA : ClassId) (q : Nat → Nat) (qq : Nat → Nat → Nat) (n : Nat) (hn12 : n ≤ 12) (g : zF) (fO : zF) (to : zF) (gR : zF) (gD : zF) (S : Nat → Nat → zF) (C : Nat → Option Nat) (p1 : Int32) (rv : Int32) (hsp : s_X6_sum g fO to gR gD S C n p1 = some rv) : zMi l yX6_sum wsX6_sum rm_X6_sum dD cI cA [.ref (q 0), .int p1] ([zX q g, zP cA (q 3) (zfm qq n), zA cI (q 4) 144 fO, zA cI (q 5) 12 to, zR (q 2) gR, zD (q 1) gD] ++ zPool cI q qq n S C) ([zX q g, zP cA (q 3) (zfm qq n), zA cI (q 4) 144 fO, zA cI (q 5) 12 to, zR (q 2) gR, zD (q 1) gD] ++ zPool cI q qq n S C) rv := by
  refine zMi_of (cc := cX6_sum) (maxL := 3) (by decide) rfl (Nat.le_of_ble_eq_true rfl) ?_
  intro p e s m args below meth c A Q ls hx hb hml hown hts hK hA hP hD hl hret
  have hown : s.vm.findClass RX6 = some m.cls := hown
  have iX4 : ∀ w ∈ wsX40, w ∈ wsX6_sum := by decide +kernel
  have f159 : (Cond.fieldLinkNest RX6 159 "MeshField$Machine" "keptSum" "I" "MeshField").before args s = true := hK.nw (by decide +kernel)
  have hS : va_S A s.heap s.heap [] := va_S.rf
  have hl : lv_has ls 3 [(0, .ref (q 0)), (1, .int p1)] := hl
  unfold s_X6_sum at hsp
  refine lv_aload_n hx hb dX6_sum_0 rfl (lv_at hl 0 rfl) ?_
  refine lv_iload_n hx hb dX6_sum_1 rfl (lv_at hl 1 rfl) ?_
  rcases z_at (qq := qq) hn12 hsp with ⟨hc1, hsp⟩ | ⟨j2, hj2, ej2, hc1, hsp⟩
  · refine z_callVq ⟨hx, hb, hml, hown, hts⟩ hK (c_X6_machineAt l dD cI cA q g (zfm qq n) (p1) _ hc1) (cwV 1 hts gX6_sum_X6_machineAt rfl rfl rfl (by decide +kernel) ⟨Nat.le_of_ble_eq_true rfl, Nat.le_of_ble_eq_true rfl⟩) (zJ.ofP (X := [zX q g, zP cA (q 3) (zfm qq n), zA cI (q 4) 144 fO, zA cI (q 5) 12 to, zR (q 2) gR, zD (q 1) gD]) (wc := [zX q g, zP cA (q 3) (zfm qq n)]) (wc1 := [zX q g, zP cA (q 3) (zfm qq n)]) (wr := [zA cI (q 4) 144 fO, zA cI (q 5) 12 to, zR (q 2) gR, zD (q 1) gD]) (w2 := [zX q g, zP cA (q 3) (zfm qq n), zA cI (q 4) 144 fO, zA cI (q 5) 12 to, zR (q 2) gR, zD (q 1) gD]) hP hD hS hA [0, 1] [2, 3, 4, 5] [4, 5, 0, 1, 2, 3] rfl rfl rfl rfl rfl rfl rfl) hS 0 6 rfl rfl rfl rfl hl.1 rfl (Nat.le_of_ble_eq_true rfl) dX6_sum_2 ⟨Nat.zero_le _, Nat.zero_le _⟩ (fun H locs hP hD hS => ?_)
    refine z_topN ?_
    refine lv_astore_nN (lv' := [(2, .null), (0, .ref (q 0)), (1, .int p1)]) hx hb dX6_sum_5 rfl hl (by decide) rfl (fun ls hl => ?_)
    refine lv_aload_nN hx hb dX6_sum_6 rfl (lv_at hl 0 rfl) ?_
    refine lv_ifnonnullN hx hb dX6_sum_7 ?_
    refine lv_iconst (v := 0) hx hb dX6_sum_10 (by decide) ?_
    refine lv_goto (tgt := 18) hx hb dX6_sum_11 (by decide) ?_
    obtain rfl := Option.some.inj hsp
    exact hret _ _ ls 18 dX6_sum_18 rfl hP hD hS
  · refine z_callVq ⟨hx, hb, hml, hown, hts⟩ hK (c_X6_machineAt l dD cI cA q g (zfm qq n) (p1) _ hc1) (cwV 1 hts gX6_sum_X6_machineAt rfl rfl rfl (by decide +kernel) ⟨Nat.le_of_ble_eq_true rfl, Nat.le_of_ble_eq_true rfl⟩) (zJ.ofP (X := [zX q g, zP cA (q 3) (zfm qq n), zA cI (q 4) 144 fO, zA cI (q 5) 12 to, zR (q 2) gR, zD (q 1) gD]) (wc := [zX q g, zP cA (q 3) (zfm qq n)]) (wc1 := [zX q g, zP cA (q 3) (zfm qq n)]) (wr := [zA cI (q 4) 144 fO, zA cI (q 5) 12 to, zR (q 2) gR, zD (q 1) gD]) (w2 := [zX q g, zP cA (q 3) (zfm qq n), zA cI (q 4) 144 fO, zA cI (q 5) 12 to, zR (q 2) gR, zD (q 1) gD]) hP hD hS hA [0, 1] [2, 3, 4, 5] [4, 5, 0, 1, 2, 3] rfl rfl rfl rfl rfl rfl rfl) hS 0 6 rfl rfl rfl rfl hl.1 rfl (Nat.le_of_ble_eq_true rfl) dX6_sum_2 ⟨Nat.zero_le _, Nat.zero_le _⟩ (fun H locs hP hD hS => ?_)
    refine z_topR ?_
    refine lv_astore_n (lv' := [(2, .ref (qq j2 0)), (0, .ref (q 0)), (1, .int p1)]) hx hb dX6_sum_5 rfl hl (by decide) rfl (fun ls hl => ?_)
    refine lv_aload_n hx hb dX6_sum_6 rfl (lv_at hl 0 rfl) ?_
    refine lv_ifnonnull (tgt := 14) hx hb dX6_sum_7 (by decide) ?_
    refine lv_aload_n hx hb dX6_sum_14 rfl (lv_at hl 0 rfl) ?_
    obtain ⟨hP, hD⟩ := z_foc (fx := [zX q g, zP cA (q 3) (zfm qq n), zA cI (q 4) 144 fO, zA cI (q 5) 12 to, zR (q 2) gR, zD (q 1) gD]) hj2 hP hD
    have hP : va_P dD vwCl ([zX q g, zP cA (q 3) (zfm qq n), zA cI (q 4) 144 fO, zA cI (q 5) 12 to, zR (q 2) gR, zD (q 1) gD, zM (qq j2) (q 2) (q 1) (zad qq (C j2)) (S j2 0), zB (qq j2) (S j2 1), zA cI (qq j2 2) 12 (S j2 2), zA cI (qq j2 3) 12 (S j2 3), zI (qq j2) (S j2 4), zL (qq j2 5) (S j2 5)] ++ zRest cI q qq n j2 S C) H := hP
    have hD : va_D A ([zX q g, zP cA (q 3) (zfm qq n), zA cI (q 4) 144 fO, zA cI (q 5) 12 to, zR (q 2) gR, zD (q 1) gD, zM (qq j2) (q 2) (q 1) (zad qq (C j2)) (S j2 0), zB (qq j2) (S j2 1), zA cI (qq j2 2) 12 (S j2 2), zA cI (qq j2 3) 12 (S j2 3), zI (qq j2) (S j2 4), zL (qq j2 5) (S j2 5)] ++ zRest cI q qq n j2 S C) := hD
    refine va_getN (D := dD) (ci := 4) (v := .int ((S j2 0) 8)) (C := RX4) (T := TX4) (N := 18) hx hb hts iX4 hown hK.1 hP 6 rfl rfl 8 (by decide) f159 (fun _ h9 => h9) rfl dX6_sum_15 ?_
    obtain ⟨hP, hD⟩ := z_unf0 [zX q g, zP cA (q 3) (zfm qq n), zA cI (q 4) 144 fO, zA cI (q 5) 12 to, zR (q 2) gR, zD (q 1) gD] hj2 hP hD
    have hP : va_P dD vwCl ([zX q g, zP cA (q 3) (zfm qq n), zA cI (q 4) 144 fO, zA cI (q 5) 12 to, zR (q 2) gR, zD (q 1) gD] ++ zPool cI q qq n S C) H := hP
    have hD : va_D A ([zX q g, zP cA (q 3) (zfm qq n), zA cI (q 4) 144 fO, zA cI (q 5) 12 to, zR (q 2) gR, zD (q 1) gD] ++ zPool cI q qq n S C) := hD
    obtain rfl := Option.some.inj hsp
    exact hret _ _ ls 18 dX6_sum_18 rfl hP hD hS
