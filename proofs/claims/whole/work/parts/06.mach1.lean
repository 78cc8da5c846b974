def s_X4_keep (gM : zF) (gB : zF) (mk : zF) (mx : zF) (p1 : Int32) (p2 : Int32) (p3 : Int32) : Option ((zF) × (zF) × (zF) × (zF)) := zl (va_up gM 6 (p1)) fun (gM1 : zF) => zl (va_up gM1 7 (p2)) fun (gM2 : zF) => zl (va_up gM2 8 (p3)) fun (gM3 : zF) => zb3 (s_X0_empty gB mk mx) fun (gB4 : zF) (mk5 : zF) (mx6 : zF) => some (gM3, gB4, mk5, mx6)
abbrev rm_X4_keep : Room := { frames := 2, cells := 0, slots := 0, locals := 43 }
set_option maxHeartbeats 4000000 in
set_option maxRecDepth 100000 in
theorem c_X4_keep (l : Launch) (dD : va_G) (cI cA : ClassId) (q : Nat → Nat) (aR : Nat) (aD : Nat) (ca : Option Nat) (gM : zF) (gB : zF) (mk : zF) (mx : zF) (p1 : Int32) (p2 : Int32) (p3 : Int32) (r_gM : zF) (r_gB : zF) (r_mk : zF) (r_mx : zF) (hsp : s_X4_keep gM gB mk mx p1 p2 p3 = some (r_gM, r_gB, r_mk, r_mx)) : zMv l yX4_keep wsX4_keep rm_X4_keep dD cI cA [.ref (q 0), .int p1, .int p2, .int p3] ([zM q aR aD ca gM, zB q gB, zA cI (q 2) 12 mk, zA cI (q 3) 12 mx]) ([zM q aR aD ca r_gM, zB q r_gB, zA cI (q 2) 12 r_mk, zA cI (q 3) 12 r_mx]) := by
  refine zMv_of (cc := cX4_keep) (maxL := 4) (by decide) rfl (Nat.le_of_ble_eq_true rfl) ?_
  intro p e s m args below meth c A Q ls hx hb hml hown hts hK hA hP hD hl hret
  have hown : s.vm.findClass RX4 = some m.cls := hown
  have iX4 : ∀ w ∈ wsX40, w ∈ wsX4_keep := by decide +kernel
  have f59 := hts (.fieldLink RX4 59 "MeshField$Machine" "number" "I") (by decide +kernel)
  have f62 := hts (.fieldLink RX4 62 "MeshField$Machine" "pieces" "I") (by decide +kernel)
  have f56 := hts (.fieldLink RX4 56 "MeshField$Machine" "keptSum" "I") (by decide +kernel)
  have f12 := hts (.fieldLink RX4 12 "MeshField$Machine" "basis" "LMeshField$Basis;") (by decide +kernel)
  have hS : va_S A s.heap s.heap [] := va_S.rf
  have hl : lv_has ls 4 [(0, .ref (q 0)), (1, .int p1), (2, .int p2), (3, .int p3)] := hl
  unfold s_X4_keep at hsp
  refine lv_aload_n hx hb dX4_keep_0 rfl (lv_at hl 0 rfl) ?_
  refine lv_iload_n hx hb dX4_keep_1 rfl (lv_at hl 1 rfl) ?_
  refine va_put (D := dD) (ci := 4) (v := .int p1) (ty := .int) (C := RX4) (T := TX4) (N := 18) hx hb hts iX4 tyX4 tyX4_ok nmX4 hown hK.1 hP hD hS 0 rfl rfl 6 (by decide) f59 (fun _ h9 => h9) rfl (by decide +kernel) rfl rfl (Nat.le_of_ble_eq_true rfl) dX4_keep_2 (fun H locs hP hD hS => ?_)
  obtain ⟨gM1, egM1, hsp⟩ := z_lt hsp
  have hP : va_P dD vwCl ([zM q aR aD ca gM1, zB q gB, zA cI (q 2) 12 mk, zA cI (q 3) 12 mx]) H := by rw [egM1]; exact hP
  have hD : va_D A ([zM q aR aD ca gM1, zB q gB, zA cI (q 2) 12 mk, zA cI (q 3) 12 mx]) := by rw [egM1]; exact hD
  refine lv_aload_n hx hb dX4_keep_5 rfl (lv_at hl 0 rfl) ?_
  refine lv_iload_n hx hb dX4_keep_6 rfl (lv_at hl 2 rfl) ?_
  refine va_put (D := dD) (ci := 4) (v := .int p2) (ty := .int) (C := RX4) (T := TX4) (N := 18) hx hb hts iX4 tyX4 tyX4_ok nmX4 hown hK.1 hP hD hS 0 rfl rfl 7 (by decide) f62 (fun _ h9 => h9) rfl (by decide +kernel) rfl rfl (Nat.le_of_ble_eq_true rfl) dX4_keep_7 (fun H locs hP hD hS => ?_)
  obtain ⟨gM2, egM2, hsp⟩ := z_lt hsp
  have hP : va_P dD vwCl ([zM q aR aD ca gM2, zB q gB, zA cI (q 2) 12 mk, zA cI (q 3) 12 mx]) H := by rw [egM2]; exact hP
  have hD : va_D A ([zM q aR aD ca gM2, zB q gB, zA cI (q 2) 12 mk, zA cI (q 3) 12 mx]) := by rw [egM2]; exact hD
  refine lv_aload_n hx hb dX4_keep_10 rfl (lv_at hl 0 rfl) ?_
  refine lv_iload_n hx hb dX4_keep_11 rfl (lv_at hl 3 rfl) ?_
  refine va_put (D := dD) (ci := 4) (v := .int p3) (ty := .int) (C := RX4) (T := TX4) (N := 18) hx hb hts iX4 tyX4 tyX4_ok nmX4 hown hK.1 hP hD hS 0 rfl rfl 8 (by decide) f56 (fun _ h9 => h9) rfl (by decide +kernel) rfl rfl (Nat.le_of_ble_eq_true rfl) dX4_keep_12 (fun H locs hP hD hS => ?_)
  obtain ⟨gM3, egM3, hsp⟩ := z_lt hsp
  have hP : va_P dD vwCl ([zM q aR aD ca gM3, zB q gB, zA cI (q 2) 12 mk, zA cI (q 3) 12 mx]) H := by rw [egM3]; exact hP
  have hD : va_D A ([zM q aR aD ca gM3, zB q gB, zA cI (q 2) 12 mk, zA cI (q 3) 12 mx]) := by rw [egM3]; exact hD
  refine lv_aload_n hx hb dX4_keep_15 rfl (lv_at hl 0 rfl) ?_
  refine va_get (D := dD) (ci := 4) (v := .ref (q 1)) (C := RX4) (T := TX4) (N := 18) hx hb hts iX4 hown hK.1 hP 0 rfl rfl 2 (by decide) f12 (fun _ h9 => h9) rfl dX4_keep_16 ?_
  obtain ⟨gB4, mk5, mx6, hc7, hsp⟩ := z_b3 hsp
  refine z_callVv ⟨hx, hb, hml, hown, hts⟩ hK (c_X0_empty l dD cI cA q gB mk mx gB4 mk5 mx6 hc7) (cwV 0 hts gX4_keep_X0_empty rfl rfl rfl (by decide +kernel) ⟨Nat.le_of_ble_eq_true rfl, Nat.le_of_ble_eq_true rfl⟩) (zJ.of (wc := [zB q gB, zA cI (q 2) 12 mk, zA cI (q 3) 12 mx]) (wc1 := [zB q gB4, zA cI (q 2) 12 mk5, zA cI (q 3) 12 mx6]) (wr := [zM q aR aD ca gM3]) (w2 := [zM q aR aD ca gM3, zB q gB4, zA cI (q 2) 12 mk5, zA cI (q 3) 12 mx6]) hP hD hS hA [1, 2, 3] [0] [0, 1, 2, 3] rfl rfl rfl rfl rfl rfl rfl) hS 0 0 rfl rfl rfl rfl hl.1 rfl (Nat.le_of_ble_eq_true rfl) dX4_keep_19 ⟨Nat.zero_le _, Nat.zero_le _⟩ (fun H locs hP hD hS => ?_)
  obtain ⟨rfl, rfl, rfl, rfl⟩ := z_i4 hsp
  exact hret _ _ ls 22 dX4_keep_22 hP hD hS
def s_X4_keepWhole_b45 (to : zF) (gM_ : zF) (gB_ : zF) (mk_ : zF) (mx_ : zF) : Option ((zF) × (zF) × (zF) × (zF)) := zb1 (s_X0_sumOfPieces gB_ mx_) fun (v7 : Int32) => zl (va_up gM_ 8 (v7)) fun (gM9 : zF) => some (gM9, gB_, mk_, mx_)
def s_X4_keepWhole_b10 (to : zF) : Nat → (zF) → (zF) → (zF) → (zF) → (Int32) → (Int32) → Option ((zF) × (zF) × (zF) × (zF))
  | 0, _, _, _, _, _, _ => none
  | n10 + 1, gM_, gB_, mk_, mx_, lo3, lo4 => (if lo3 ≤ lo4 then (s_X4_keepWhole_b45 to gM_ gB_ mk_ mx_) else (if 12 ≤ lo4 then (s_X4_keepWhole_b45 to gM_ gB_ mk_ mx_) else if lo4 < 0 ∨ 12 ≤ (lo4).toNatClampNeg then none else zb4 (s_X0_takeIn gB_ mk_ mx_ ((zShl 1 lo4)) ((to (lo4).toNatClampNeg))) fun (v12 : Int32) (gB13 : zF) (mk14 : zF) (mx15 : zF) => zl (lo4 + 1) fun (x17 : Int32) => (s_X4_keepWhole_b10 to n10 gM_ gB13 mk14 mx15 (lo3) (x17))))
def s_X4_keepWhole (gM : zF) (gB : zF) (mk : zF) (mx : zF) (to : zF) (p1 : Int32) (p2 : Int32) : Option ((zF) × (zF) × (zF) × (zF)) := zb4 (s_X4_keep gM gB mk mx (p1) (p2) (0)) fun (gM1 : zF) (gB2 : zF) (mk3 : zF) (mx4 : zF) => (s_X4_keepWhole_b10 to 13 gM1 gB2 mk3 mx4 (p2) (0))
abbrev rm_X4_keepWhole : Room := { frames := 3, cells := 0, slots := 0, locals := 68 }
set_option maxHeartbeats 4000000 in
set_option maxRecDepth 100000 in
theorem c_X4_keepWhole (l : Launch) (dD : va_G) (cI cA : ClassId) (q : Nat → Nat) (aR : Nat) (aD : Nat) (ca : Option Nat) (aT : Nat) (gM : zF) (gB : zF) (mk : zF) (mx : zF) (to : zF) (p1 : Int32) (p2 : Int32) (r_gM : zF) (r_gB : zF) (r_mk : zF) (r_mx : zF) (hsp : s_X4_keepWhole gM gB mk mx to p1 p2 = some (r_gM, r_gB, r_mk, r_mx)) : zMv l yX4_keepWhole wsX4_keepWhole rm_X4_keepWhole dD cI cA [.ref (q 0), .int p1, .ref aT, .int p2] ([zM q aR aD ca gM, zB q gB, zA cI (q 2) 12 mk, zA cI (q 3) 12 mx, zA cI aT 12 to]) ([zM q aR aD ca r_gM, zB q r_gB, zA cI (q 2) 12 r_mk, zA cI (q 3) 12 r_mx, zA cI aT 12 to]) := by
  refine zMv_of (cc := cX4_keepWhole) (maxL := 5) (by decide) rfl (Nat.le_of_ble_eq_true rfl) ?_
  intro p e s m args below meth c A Q ls hx hb hml hown hts hK hA hP hD hl hret
  have hown : s.vm.findClass RX4 = some m.cls := hown
  have iX4 : ∀ w ∈ wsX40, w ∈ wsX4_keepWhole := by decide +kernel
  have f12 := hts (.fieldLink RX4 12 "MeshField$Machine" "basis" "LMeshField$Basis;") (by decide +kernel)
  have f56 := hts (.fieldLink RX4 56 "MeshField$Machine" "keptSum" "I") (by decide +kernel)
  have hS : va_S A s.heap s.heap [] := va_S.rf
  have hl : lv_has ls 5 [(0, .ref (q 0)), (1, .int p1), (2, .ref aT), (3, .int p2)] := hl
  have K_45 : ∀ (H : Heap) (locs : List Loc) (ls : Array Slot) (gM_ : zF) (gB_ : zF) (mk_ : zF) (mx_ : zF), va_P dD vwCl ([zM q aR aD ca gM_, zB q gB_, zA cI (q 2) 12 mk_, zA cI (q 3) 12 mx_, zA cI aT 12 to]) H → va_D A ([zM q aR aD ca gM_, zB q gB_, zA cI (q 2) 12 mk_, zA cI (q 3) 12 mx_, zA cI aT 12 to]) → va_S A s.heap H locs → lv_has ls 5 [(0, .ref (q 0))] → s_X4_keepWhole_b45 to gM_ gB_ mk_ mx_ = some (r_gM, r_gB, r_mk, r_mx) → W p l e rm_X4_keepWhole s m args below meth c H locs 0 0 Q (F0 m 45 ls []) := by
    intro H locs ls gM_ gB_ mk_ mx_ hP hD hS hl hsp
    unfold s_X4_keepWhole_b45 at hsp
    refine lv_aload_n hx hb dX4_keepWhole_45 rfl (lv_at hl 0 rfl) ?_
    refine lv_aload_n hx hb dX4_keepWhole_46 rfl (lv_at hl 0 rfl) ?_
    refine va_get (D := dD) (ci := 4) (v := .ref (q 1)) (C := RX4) (T := TX4) (N := 18) hx hb hts iX4 hown hK.1 hP 0 rfl rfl 2 (by decide) f12 (fun _ h9 => h9) rfl dX4_keepWhole_47 ?_
    obtain ⟨v7, hc8, hsp⟩ := z_b1 hsp
    refine z_callVi ⟨hx, hb, hml, hown, hts⟩ hK (c_X0_sumOfPieces l dD cI cA q gB_ mx_ v7 hc8) (cwV 0 hts gX4_keepWhole_X0_sumOfPieces rfl rfl rfl (by decide +kernel) ⟨Nat.le_of_ble_eq_true rfl, Nat.le_of_ble_eq_true rfl⟩) (zJ.of (wc := [zB q gB_, zA cI (q 3) 12 mx_]) (wc1 := [zB q gB_, zA cI (q 3) 12 mx_]) (wr := [zM q aR aD ca gM_, zA cI (q 2) 12 mk_, zA cI aT 12 to]) (w2 := [zM q aR aD ca gM_, zB q gB_, zA cI (q 2) 12 mk_, zA cI (q 3) 12 mx_, zA cI aT 12 to]) hP hD hS hA [1, 3] [0, 2, 4] [0, 3, 1, 4, 2] rfl rfl rfl rfl rfl rfl rfl) hS 0 0 rfl rfl rfl rfl hl.1 rfl (Nat.le_of_ble_eq_true rfl) dX4_keepWhole_50 ⟨Nat.zero_le _, Nat.zero_le _⟩ (fun H locs hP hD hS => ?_)
    refine va_put (D := dD) (ci := 4) (v := .int v7) (ty := .int) (C := RX4) (T := TX4) (N := 18) hx hb hts iX4 tyX4 tyX4_ok nmX4 hown hK.1 hP hD hS 0 rfl rfl 8 (by decide) f56 (fun _ h9 => h9) rfl (by decide +kernel) rfl rfl (Nat.le_of_ble_eq_true rfl) dX4_keepWhole_53 (fun H locs hP hD hS => ?_)
    obtain ⟨gM9, egM9, hsp⟩ := z_lt hsp
    have hP : va_P dD vwCl ([zM q aR aD ca gM9, zB q gB_, zA cI (q 2) 12 mk_, zA cI (q 3) 12 mx_, zA cI aT 12 to]) H := by rw [egM9]; exact hP
    have hD : va_D A ([zM q aR aD ca gM9, zB q gB_, zA cI (q 2) 12 mk_, zA cI (q 3) 12 mx_, zA cI aT 12 to]) := by rw [egM9]; exact hD
    obtain ⟨rfl, rfl, rfl, rfl⟩ := z_i4 hsp
    exact hret _ _ ls 56 dX4_keepWhole_56 hP hD hS
  have K_10 : ∀ (nf : Nat) (H : Heap) (locs : List Loc) (ls : Array Slot) (gM_ : zF) (gB_ : zF) (mk_ : zF) (mx_ : zF) (lo3 : Int32) (lo4 : Int32), va_P dD vwCl ([zM q aR aD ca gM_, zB q gB_, zA cI (q 2) 12 mk_, zA cI (q 3) 12 mx_, zA cI aT 12 to]) H → va_D A ([zM q aR aD ca gM_, zB q gB_, zA cI (q 2) 12 mk_, zA cI (q 3) 12 mx_, zA cI aT 12 to]) → va_S A s.heap H locs → lv_has ls 5 [(0, .ref (q 0)), (2, .ref aT), (3, .int lo3), (4, .int lo4)] → s_X4_keepWhole_b10 to nf gM_ gB_ mk_ mx_ lo3 lo4 = some (r_gM, r_gB, r_mk, r_mx) → W p l e rm_X4_keepWhole s m args below meth c H locs 0 0 Q (F0 m 10 ls []) := by
    intro nf
    induction nf with
    | zero =>
      intro H locs ls gM_ gB_ mk_ mx_ lo3 lo4 hP hD hS hl hsp
      exact absurd (show (none : Option ((zF) × (zF) × (zF) × (zF))) = some (r_gM, r_gB, r_mk, r_mx) from hsp) (fun h => by cases h)
    | succ n10 ih10 =>
      intro H locs ls gM_ gB_ mk_ mx_ lo3 lo4 hP hD hS hl hsp
      rw [s_X4_keepWhole_b10] at hsp
      refine lv_iload hx hb dX4_keepWhole_10 (lv_at hl 3 rfl) ?_
      refine lv_iload_n hx hb dX4_keepWhole_12 rfl (lv_at hl 2 rfl) ?_
      refine lv_icmp_ge (tgt := 45) hx hb dX4_keepWhole_13 (by decide) (fun c6 => ?_) (fun c6 => ?_)
      · have hsp := z_t c6 hsp
        exact K_45 _ _ ls gM_ gB_ mk_ mx_ hP hD hS (lv_sub hl [0] rfl) hsp
      · have hsp := z_f c6 hsp
        refine lv_iload hx hb dX4_keepWhole_16 (lv_at hl 3 rfl) ?_
        refine lv_aload_n hx hb dX4_keepWhole_18 rfl (lv_at hl 1 rfl) ?_
        refine va_alen (v := 12) hx hb hK.1 hP 4 0 rfl rfl rfl dX4_keepWhole_19 ?_
        refine lv_icmp_ge (tgt := 45) hx hb dX4_keepWhole_20 (by decide) (fun c10 => ?_) (fun c10 => ?_)
        · have hsp := z_t c10 hsp
          exact K_45 _ _ ls gM_ gB_ mk_ mx_ hP hD hS (lv_sub hl [0] rfl) hsp
        · have hsp := z_f c10 hsp
          refine lv_aload_n hx hb dX4_keepWhole_23 rfl (lv_at hl 0 rfl) ?_
          refine va_get (D := dD) (ci := 4) (v := .ref (q 1)) (C := RX4) (T := TX4) (N := 18) hx hb hts iX4 hown hK.1 hP 0 rfl rfl 2 (by decide) f12 (fun _ h9 => h9) rfl dX4_keepWhole_24 ?_
          refine lv_iconst (v := 1) hx hb dX4_keepWhole_27 (by decide) ?_
          refine lv_iload hx hb dX4_keepWhole_28 (lv_at hl 3 rfl) ?_
          refine lv_ishl hx hb dX4_keepWhole_30 ?_
          refine z_top (y := (zShl 1 lo4)) rfl ?_
          refine lv_aload_n hx hb dX4_keepWhole_31 rfl (lv_at hl 1 rfl) ?_
          refine lv_iload hx hb dX4_keepWhole_32 (lv_at hl 3 rfl) ?_
          obtain ⟨h11, hsp⟩ := z_in hsp
          refine va_iald hx hb hK.1 hP 4 0 rfl rfl h11 dX4_keepWhole_34 ?_
          obtain ⟨v12, gB13, mk14, mx15, hc16, hsp⟩ := z_b4 hsp
          refine z_callVi ⟨hx, hb, hml, hown, hts⟩ hK (c_X0_takeIn l dD cI cA q gB_ mk_ mx_ ((zShl 1 lo4)) ((to (lo4).toNatClampNeg)) v12 gB13 mk14 mx15 hc16) (cwV 2 hts gX4_keepWhole_X0_takeIn rfl rfl rfl (by decide +kernel) ⟨Nat.le_of_ble_eq_true rfl, Nat.le_of_ble_eq_true rfl⟩) (zJ.of (wc := [zB q gB_, zA cI (q 2) 12 mk_, zA cI (q 3) 12 mx_]) (wc1 := [zB q gB13, zA cI (q 2) 12 mk14, zA cI (q 3) 12 mx15]) (wr := [zM q aR aD ca gM_, zA cI aT 12 to]) (w2 := [zM q aR aD ca gM_, zB q gB13, zA cI (q 2) 12 mk14, zA cI (q 3) 12 mx15, zA cI aT 12 to]) hP hD hS hA [1, 2, 3] [0, 4] [0, 2, 3, 4, 1] rfl rfl rfl rfl rfl rfl rfl) hS 0 0 rfl rfl rfl rfl hl.1 rfl (Nat.le_of_ble_eq_true rfl) dX4_keepWhole_35 ⟨Nat.zero_le _, Nat.zero_le _⟩ (fun H locs hP hD hS => ?_)
          refine lv_pop hx hb dX4_keepWhole_38 rfl ?_
          obtain ⟨x17, ex17, hsp⟩ := z_lt hsp
          refine lv_iinc (v := x17) (lv' := [(4, .int x17), (0, .ref (q 0)), (2, .ref aT), (3, .int lo3)]) hx hb dX4_keepWhole_39 hl (k := 3) rfl (by rw [ex17]; rfl) (by decide) rfl (fun ls hl => ?_)
          refine lv_goto (tgt := 10) hx hb dX4_keepWhole_42 (by decide) ?_
          exact ih10 _ _ ls gM_ gB13 mk14 mx15 (lo3) (x17) hP hD hS (lv_sub hl [1, 2, 3, 0] rfl) hsp
  unfold s_X4_keepWhole at hsp
  refine lv_aload_n hx hb dX4_keepWhole_0 rfl (lv_at hl 0 rfl) ?_
  refine lv_iload_n hx hb dX4_keepWhole_1 rfl (lv_at hl 1 rfl) ?_
  refine lv_iload_n hx hb dX4_keepWhole_2 rfl (lv_at hl 3 rfl) ?_
  refine lv_iconst (v := 0) hx hb dX4_keepWhole_3 (by decide) ?_
  obtain ⟨gM1, gB2, mk3, mx4, hc5, hsp⟩ := z_b4 hsp
  refine z_callVv ⟨hx, hb, hml, hown, hts⟩ hK (c_X4_keep l dD cI cA q aR aD ca gM gB mk mx (p1) (p2) (0) gM1 gB2 mk3 mx4 hc5) (cwV 3 hts gX4_keepWhole_X4_keep rfl rfl rfl (by decide +kernel) ⟨Nat.le_of_ble_eq_true rfl, Nat.le_of_ble_eq_true rfl⟩) (zJ.of (wc := [zM q aR aD ca gM, zB q gB, zA cI (q 2) 12 mk, zA cI (q 3) 12 mx]) (wc1 := [zM q aR aD ca gM1, zB q gB2, zA cI (q 2) 12 mk3, zA cI (q 3) 12 mx4]) (wr := [zA cI aT 12 to]) (w2 := [zM q aR aD ca gM1, zB q gB2, zA cI (q 2) 12 mk3, zA cI (q 3) 12 mx4, zA cI aT 12 to]) hP hD hS hA [0, 1, 2, 3] [4] [1, 2, 3, 4, 0] rfl rfl rfl rfl rfl rfl rfl) hS 0 4 rfl rfl rfl rfl hl.1 rfl (Nat.le_of_ble_eq_true rfl) dX4_keepWhole_4 ⟨Nat.zero_le _, Nat.zero_le _⟩ (fun H locs hP hD hS => ?_)
  refine lv_iconst (v := 0) hx hb dX4_keepWhole_7 (by decide) ?_
  refine lv_istore (lv' := [(4, .int 0), (0, .ref (q 0)), (1, .int p1), (2, .ref aT), (3, .int p2)]) hx hb dX4_keepWhole_8 hl (by decide) rfl (fun ls hl => ?_)
  exact K_10 13 _ _ ls gM1 gB2 mk3 mx4 (p2) (0) hP hD hS (lv_sub hl [1, 3, 4, 0] rfl) hsp
def s_X4_isWhole (gM : zF) (gB : zF) : Option Int32 := (if (gM 6) = 0 then some (0) else (if (gB 2) = (gM 7) then some (1) else some (0)))
abbrev rm_X4_isWhole : Room := { frames := 0, cells := 0, slots := 0, locals := 0 }
set_option maxHeartbeats 4000000 in
set_option maxRecDepth 100000 in
theorem c_X4_isWhole (l : Launch) (dD : va_G) (cI cA : ClassId) (q : Nat → Nat) (aR : Nat) (aD : Nat) (ca : Option Nat) (gM : zF) (gB : zF) (rv : Int32) (hsp : s_X4_isWhole gM gB = some rv) : zMi l yX4_isWhole wsX4_isWhole rm_X4_isWhole dD cI cA [.ref (q 0)] ([zM q aR aD ca gM, zB q gB]) ([zM q aR aD ca gM, zB q gB]) rv := by
  refine zMi_of (cc := cX4_isWhole) (maxL := 1) (by decide) rfl (Nat.le_of_ble_eq_true rfl) ?_
  intro p e s m args below meth c A Q ls hx hb hml hown hts hK hA hP hD hl hret
  have hown : s.vm.findClass RX4 = some m.cls := hown
  have iX4 : ∀ w ∈ wsX40, w ∈ wsX4_isWhole := by decide +kernel
  have iX0 : ∀ w ∈ wsX00, w ∈ wsX4_isWhole := by decide +kernel
  have f59 := hts (.fieldLink RX4 59 "MeshField$Machine" "number" "I") (by decide +kernel)
  have f12 := hts (.fieldLink RX4 12 "MeshField$Machine" "basis" "LMeshField$Basis;") (by decide +kernel)
  have f68 : (Cond.fieldLinkNest RX4 68 "MeshField$Basis" "rank" "I" "MeshField").before args s = true := hK.nw (by decide +kernel)
  have f62 := hts (.fieldLink RX4 62 "MeshField$Machine" "pieces" "I") (by decide +kernel)
  have hS : va_S A s.heap s.heap [] := va_S.rf
  have hl : lv_has ls 1 [(0, .ref (q 0))] := hl
  unfold s_X4_isWhole at hsp
  refine lv_aload_n hx hb dX4_isWhole_0 rfl (lv_at hl 0 rfl) ?_
  refine va_get (D := dD) (ci := 4) (v := .int (gM 6)) (C := RX4) (T := TX4) (N := 18) hx hb hts iX4 hown hK.1 hP 0 rfl rfl 6 (by decide) f59 (fun _ h9 => h9) rfl dX4_isWhole_1 ?_
  refine lv_if_eq (tgt := 25) hx hb dX4_isWhole_4 (by decide) (fun c1 => ?_) (fun c1 => ?_)
  · have hsp := z_t c1 hsp
    refine lv_iconst (v := 0) hx hb dX4_isWhole_25 (by decide) ?_
    obtain rfl := Option.some.inj hsp
    exact hret _ _ ls 26 dX4_isWhole_26 rfl hP hD hS
  · have hsp := z_f c1 hsp
    refine lv_aload_n hx hb dX4_isWhole_7 rfl (lv_at hl 0 rfl) ?_
    refine va_get (D := dD) (ci := 4) (v := .ref (q 1)) (C := RX4) (T := TX4) (N := 18) hx hb hts iX4 hown hK.1 hP 0 rfl rfl 2 (by decide) f12 (fun _ h9 => h9) rfl dX4_isWhole_8 ?_
    refine va_getN (D := dD) (ci := 0) (v := .int (gB 2)) (C := RX0) (T := TX0) (N := 3) hx hb hts iX0 hown hK.1 hP 1 rfl rfl 2 (by decide) f68 (fun _ h9 => h9) rfl dX4_isWhole_11 ?_
    refine lv_aload_n hx hb dX4_isWhole_14 rfl (lv_at hl 0 rfl) ?_
    refine va_get (D := dD) (ci := 4) (v := .int (gM 7)) (C := RX4) (T := TX4) (N := 18) hx hb hts iX4 hown hK.1 hP 0 rfl rfl 7 (by decide) f62 (fun _ h9 => h9) rfl dX4_isWhole_15 ?_
    refine lv_icmp_ne (tgt := 25) hx hb dX4_isWhole_18 (by decide) (fun c2 => ?_) (fun c2 => ?_)
    · have hsp := z_f c2 hsp
      refine lv_iconst (v := 0) hx hb dX4_isWhole_25 (by decide) ?_
      obtain rfl := Option.some.inj hsp
      exact hret _ _ ls 26 dX4_isWhole_26 rfl hP hD hS
    · have hsp := z_t c2 hsp
      refine lv_iconst (v := 1) hx hb dX4_isWhole_21 (by decide) ?_
      refine lv_goto (tgt := 26) hx hb dX4_isWhole_22 (by decide) ?_
      obtain rfl := Option.some.inj hsp
      exact hret _ _ ls 26 dX4_isWhole_26 rfl hP hD hS
def s_X4_isWholeOf (gM : zF) (gB : zF) (p1 : Int32) : Option Int32 := (if (gM 6) = p1 then zb1 (s_X4_isWhole gM gB) fun (v2 : Int32) => (if v2 = 0 then some (0) else some (1)) else some (0))
abbrev rm_X4_isWholeOf : Room := { frames := 1, cells := 0, slots := 0, locals := 20 }
set_option maxHeartbeats 4000000 in
set_option maxRecDepth 100000 in
theorem c_X4_isWholeOf (l : Launch) (dD : va_G) (cI cA : ClassId) (q : Nat → Nat) (aR : Nat) (aD : Nat) (ca : Option Nat) (gM : zF) (gB : zF) (p1 : Int32) (rv : Int32) (hsp : s_X4_isWholeOf gM gB p1 = some rv) : zMi l yX4_isWholeOf wsX4_isWholeOf rm_X4_isWholeOf dD cI cA [.ref (q 0), .int p1] ([zM q aR aD ca gM, zB q gB]) ([zM q aR aD ca gM, zB q gB]) rv := by
  refine zMi_of (cc := cX4_isWholeOf) (maxL := 2) (by decide) rfl (Nat.le_of_ble_eq_true rfl) ?_
  intro p e s m args below meth c A Q ls hx hb hml hown hts hK hA hP hD hl hret
  have hown : s.vm.findClass RX4 = some m.cls := hown
  have iX4 : ∀ w ∈ wsX40, w ∈ wsX4_isWholeOf := by decide +kernel
  have f59 := hts (.fieldLink RX4 59 "MeshField$Machine" "number" "I") (by decide +kernel)
  have hS : va_S A s.heap s.heap [] := va_S.rf
  have hl : lv_has ls 2 [(0, .ref (q 0)), (1, .int p1)] := hl
  unfold s_X4_isWholeOf at hsp
  refine lv_aload_n hx hb dX4_isWholeOf_0 rfl (lv_at hl 0 rfl) ?_
  refine va_get (D := dD) (ci := 4) (v := .int (gM 6)) (C := RX4) (T := TX4) (N := 18) hx hb hts iX4 hown hK.1 hP 0 rfl rfl 6 (by decide) f59 (fun _ h9 => h9) rfl dX4_isWholeOf_1 ?_
  refine lv_iload_n hx hb dX4_isWholeOf_4 rfl (lv_at hl 1 rfl) ?_
  refine lv_icmp_ne (tgt := 19) hx hb dX4_isWholeOf_5 (by decide) (fun c1 => ?_) (fun c1 => ?_)
  · have hsp := z_f c1 hsp
    refine lv_iconst (v := 0) hx hb dX4_isWholeOf_19 (by decide) ?_
    obtain rfl := Option.some.inj hsp
    exact hret _ _ ls 20 dX4_isWholeOf_20 rfl hP hD hS
  · have hsp := z_t c1 hsp
    refine lv_aload_n hx hb dX4_isWholeOf_8 rfl (lv_at hl 0 rfl) ?_
    obtain ⟨v2, hc3, hsp⟩ := z_b1 hsp
    refine z_callVi ⟨hx, hb, hml, hown, hts⟩ hK (c_X4_isWhole l dD cI cA q aR aD ca gM gB v2 hc3) (cwV 0 hts gX4_isWholeOf_X4_isWhole rfl rfl rfl (by decide +kernel) ⟨Nat.le_of_ble_eq_true rfl, Nat.le_of_ble_eq_true rfl⟩) (zJ.of (wc := [zM q aR aD ca gM, zB q gB]) (wc1 := [zM q aR aD ca gM, zB q gB]) (wr := []) (w2 := [zM q aR aD ca gM, zB q gB]) hP hD hS hA [0, 1] [] [0, 1] rfl rfl rfl rfl rfl rfl rfl) hS 0 4 rfl rfl rfl rfl hl.1 rfl (Nat.le_of_ble_eq_true rfl) dX4_isWholeOf_9 ⟨Nat.zero_le _, Nat.zero_le _⟩ (fun H locs hP hD hS => ?_)
    refine lv_if_eq (tgt := 19) hx hb dX4_isWholeOf_12 (by decide) (fun c4 => ?_) (fun c4 => ?_)
    · have hsp := z_t c4 hsp
      refine lv_iconst (v := 0) hx hb dX4_isWholeOf_19 (by decide) ?_
      obtain rfl := Option.some.inj hsp
      exact hret _ _ ls 20 dX4_isWholeOf_20 rfl hP hD hS
    · have hsp := z_f c4 hsp
      refine lv_iconst (v := 1) hx hb dX4_isWholeOf_15 (by decide) ?_
      refine lv_goto (tgt := 20) hx hb dX4_isWholeOf_16 (by decide) ?_
      obtain rfl := Option.some.inj hsp
      exact hret _ _ ls 20 dX4_isWholeOf_20 rfl hP hD hS
def s_X4_stir (gM : zF) (gI : zF) (gR : zF) (gD : zF) (p1 : Int32) : Option ((zF) × (zF)) := (if (gI 0) ≤ (gR 1) then some (gI, gD) else zb2 (s_X2_begin gI gD ((gR 1)) ((p1 + 1))) fun (gI2 : zF) (gD3 : zF) => some (gI2, gD3))
abbrev rm_X4_stir : Room := { frames := 2, cells := 0, slots := 0, locals := 44 }
set_option maxHeartbeats 4000000 in
set_option maxRecDepth 100000 in
theorem c_X4_stir (l : Launch) (dD : va_G) (cI cA : ClassId) (q : Nat → Nat) (aR : Nat) (aD : Nat) (ca : Option Nat) (gM : zF) (gI : zF) (gR : zF) (gD : zF) (p1 : Int32) (r_gI : zF) (r_gD : zF) (hsp : s_X4_stir gM gI gR gD p1 = some (r_gI, r_gD)) : zMv l yX4_stir wsX4_stir rm_X4_stir dD cI cA [.ref (q 0), .int p1] ([zM q aR aD ca gM, zI q gI, zR aR gR, zD aD gD]) ([zM q aR aD ca gM, zI q r_gI, zR aR gR, zD aD r_gD]) := by
  refine zMv_of (cc := cX4_stir) (maxL := 2) (by decide) rfl (Nat.le_of_ble_eq_true rfl) ?_
  intro p e s m args below meth c A Q ls hx hb hml hown hts hK hA hP hD hl hret
  have hown : s.vm.findClass RX4 = some m.cls := hown
  have iX4 : ∀ w ∈ wsX40, w ∈ wsX4_stir := by decide +kernel
  have iX2 : ∀ w ∈ wsX20, w ∈ wsX4_stir := by decide +kernel
  have iX5 : ∀ w ∈ wsX50, w ∈ wsX4_stir := by decide +kernel
  have f21 := hts (.fieldLink RX4 21 "MeshField$Machine" "interval" "LMeshField$Interval;") (by decide +kernel)
  have f75 : (Cond.fieldLinkNest RX4 75 "MeshField$Interval" "span" "I" "MeshField").before args s = true := hK.nw (by decide +kernel)
  have f36 := hts (.fieldLink RX4 36 "MeshField$Machine" "rules" "LMeshField$Rules;") (by decide +kernel)
  have f78 : (Cond.fieldLinkNest RX4 78 "MeshField$Rules" "low" "I" "MeshField").before args s = true := hK.nw (by decide +kernel)
  have f40 := hts (.fieldLink RX4 40 "MeshField$Machine" "draws" "LMeshField$Draws;") (by decide +kernel)
  have hS : va_S A s.heap s.heap [] := va_S.rf
  have hl : lv_has ls 2 [(0, .ref (q 0)), (1, .int p1)] := hl
  unfold s_X4_stir at hsp
  refine lv_aload_n hx hb dX4_stir_0 rfl (lv_at hl 0 rfl) ?_
  refine va_get (D := dD) (ci := 4) (v := .ref (q 4)) (C := RX4) (T := TX4) (N := 18) hx hb hts iX4 hown hK.1 hP 0 rfl rfl 3 (by decide) f21 (fun _ h9 => h9) rfl dX4_stir_1 ?_
  refine va_getN (D := dD) (ci := 2) (v := .int (gI 0)) (C := RX2) (T := TX2) (N := 4) hx hb hts iX2 hown hK.1 hP 1 rfl rfl 0 (by decide) f75 (fun _ h9 => h9) rfl dX4_stir_4 ?_
  refine lv_aload_n hx hb dX4_stir_7 rfl (lv_at hl 0 rfl) ?_
  refine va_get (D := dD) (ci := 4) (v := .ref aR) (C := RX4) (T := TX4) (N := 18) hx hb hts iX4 hown hK.1 hP 0 rfl rfl 0 (by decide) f36 (fun _ h9 => h9) rfl dX4_stir_8 ?_
  refine va_getN (D := dD) (ci := 5) (v := .int (gR 1)) (C := RX5) (T := TX5) (N := 4) hx hb hts iX5 hown hK.1 hP 2 rfl rfl 1 (by decide) f78 (fun _ h9 => h9) rfl dX4_stir_11 ?_
  refine lv_icmp_le (tgt := 38) hx hb dX4_stir_14 (by decide) (fun c1 => ?_) (fun c1 => ?_)
  · have hsp := z_t c1 hsp
    obtain ⟨rfl, rfl⟩ := z_i2 hsp
    exact hret _ _ ls 38 dX4_stir_38 hP hD hS
  · have hsp := z_f c1 hsp
    refine lv_aload_n hx hb dX4_stir_17 rfl (lv_at hl 0 rfl) ?_
    refine va_get (D := dD) (ci := 4) (v := .ref (q 4)) (C := RX4) (T := TX4) (N := 18) hx hb hts iX4 hown hK.1 hP 0 rfl rfl 3 (by decide) f21 (fun _ h9 => h9) rfl dX4_stir_18 ?_
    refine lv_aload_n hx hb dX4_stir_21 rfl (lv_at hl 0 rfl) ?_
    refine va_get (D := dD) (ci := 4) (v := .ref aR) (C := RX4) (T := TX4) (N := 18) hx hb hts iX4 hown hK.1 hP 0 rfl rfl 0 (by decide) f36 (fun _ h9 => h9) rfl dX4_stir_22 ?_
    refine va_getN (D := dD) (ci := 5) (v := .int (gR 1)) (C := RX5) (T := TX5) (N := 4) hx hb hts iX5 hown hK.1 hP 2 rfl rfl 1 (by decide) f78 (fun _ h9 => h9) rfl dX4_stir_25 ?_
    refine lv_iload_n hx hb dX4_stir_28 rfl (lv_at hl 1 rfl) ?_
    refine lv_iconst (v := 1) hx hb dX4_stir_29 (by decide) ?_
    refine lv_iadd hx hb dX4_stir_30 ?_
    refine lv_aload_n hx hb dX4_stir_31 rfl (lv_at hl 0 rfl) ?_
    refine va_get (D := dD) (ci := 4) (v := .ref aD) (C := RX4) (T := TX4) (N := 18) hx hb hts iX4 hown hK.1 hP 0 rfl rfl 1 (by decide) f40 (fun _ h9 => h9) rfl dX4_stir_32 ?_
    obtain ⟨gI2, gD3, hc4, hsp⟩ := z_b2 hsp
    refine z_callVv ⟨hx, hb, hml, hown, hts⟩ hK (c_X2_begin l dD cI cA q aD gI gD ((gR 1)) ((p1 + 1)) gI2 gD3 hc4) (cwV 3 hts gX4_stir_X2_begin rfl rfl rfl (by decide +kernel) ⟨Nat.le_of_ble_eq_true rfl, Nat.le_of_ble_eq_true rfl⟩) (zJ.of (wc := [zI q gI, zD aD gD]) (wc1 := [zI q gI2, zD aD gD3]) (wr := [zM q aR aD ca gM, zR aR gR]) (w2 := [zM q aR aD ca gM, zI q gI2, zR aR gR, zD aD gD3]) hP hD hS hA [1, 3] [0, 2] [0, 2, 1, 3] rfl rfl rfl rfl rfl rfl rfl) hS 0 2 rfl rfl rfl rfl hl.1 rfl (Nat.le_of_ble_eq_true rfl) dX4_stir_35 ⟨Nat.zero_le _, Nat.zero_le _⟩ (fun H locs hP hD hS => ?_)
    obtain ⟨rfl, rfl⟩ := z_i2 hsp
    exact hret _ _ ls 38 dX4_stir_38 hP hD hS
def s_X4_takeTurn (gM : zF) (p1 : Int32) (p2 : Int32) : Option (Int32 × (zF)) := (if (gM 11) < p1 then zl (va_up gM 11 (p1)) fun (gM2 : zF) => zl (va_up gM2 12 (p2)) fun (gM3 : zF) => some (1, gM3) else some (0, gM))
abbrev rm_X4_takeTurn : Room := { frames := 0, cells := 0, slots := 0, locals := 0 }
set_option maxHeartbeats 4000000 in
set_option maxRecDepth 100000 in
theorem c_X4_takeTurn (l : Launch) (dD : va_G) (cI cA : ClassId) (q : Nat → Nat) (aR : Nat) (aD : Nat) (ca : Option Nat) (gM : zF) (p1 : Int32) (p2 : Int32) (rv : Int32) (r_gM : zF) (hsp : s_X4_takeTurn gM p1 p2 = some (rv, r_gM)) : zMi l yX4_takeTurn wsX4_takeTurn rm_X4_takeTurn dD cI cA [.ref (q 0), .int p1, .int p2] ([zM q aR aD ca gM]) ([zM q aR aD ca r_gM]) rv := by
  refine zMi_of (cc := cX4_takeTurn) (maxL := 3) (by decide) rfl (Nat.le_of_ble_eq_true rfl) ?_
  intro p e s m args below meth c A Q ls hx hb hml hown hts hK hA hP hD hl hret
  have hown : s.vm.findClass RX4 = some m.cls := hown
  have iX4 : ∀ w ∈ wsX40, w ∈ wsX4_takeTurn := by decide +kernel
  have f87 := hts (.fieldLink RX4 87 "MeshField$Machine" "turnNumber" "I") (by decide +kernel)
  have f90 := hts (.fieldLink RX4 90 "MeshField$Machine" "turnTick" "I") (by decide +kernel)
  have hS : va_S A s.heap s.heap [] := va_S.rf
  have hl : lv_has ls 3 [(0, .ref (q 0)), (1, .int p1), (2, .int p2)] := hl
  unfold s_X4_takeTurn at hsp
  refine lv_iload_n hx hb dX4_takeTurn_0 rfl (lv_at hl 1 rfl) ?_
  refine lv_aload_n hx hb dX4_takeTurn_1 rfl (lv_at hl 0 rfl) ?_
  refine va_get (D := dD) (ci := 4) (v := .int (gM 11)) (C := RX4) (T := TX4) (N := 18) hx hb hts iX4 hown hK.1 hP 0 rfl rfl 11 (by decide) f87 (fun _ h9 => h9) rfl dX4_takeTurn_2 ?_
  refine lv_icmp_gt (tgt := 10) hx hb dX4_takeTurn_5 (by decide) (fun c1 => ?_) (fun c1 => ?_)
  · have hsp := z_t c1 hsp
    refine lv_aload_n hx hb dX4_takeTurn_10 rfl (lv_at hl 0 rfl) ?_
    refine lv_iload_n hx hb dX4_takeTurn_11 rfl (lv_at hl 1 rfl) ?_
    refine va_put (D := dD) (ci := 4) (v := .int p1) (ty := .int) (C := RX4) (T := TX4) (N := 18) hx hb hts iX4 tyX4 tyX4_ok nmX4 hown hK.1 hP hD hS 0 rfl rfl 11 (by decide) f87 (fun _ h9 => h9) rfl (by decide +kernel) rfl rfl (Nat.le_of_ble_eq_true rfl) dX4_takeTurn_12 (fun H locs hP hD hS => ?_)
    obtain ⟨gM2, egM2, hsp⟩ := z_lt hsp
    have hP : va_P dD vwCl ([zM q aR aD ca gM2]) H := by rw [egM2]; exact hP
    have hD : va_D A ([zM q aR aD ca gM2]) := by rw [egM2]; exact hD
    refine lv_aload_n hx hb dX4_takeTurn_15 rfl (lv_at hl 0 rfl) ?_
    refine lv_iload_n hx hb dX4_takeTurn_16 rfl (lv_at hl 2 rfl) ?_
    refine va_put (D := dD) (ci := 4) (v := .int p2) (ty := .int) (C := RX4) (T := TX4) (N := 18) hx hb hts iX4 tyX4 tyX4_ok nmX4 hown hK.1 hP hD hS 0 rfl rfl 12 (by decide) f90 (fun _ h9 => h9) rfl (by decide +kernel) rfl rfl (Nat.le_of_ble_eq_true rfl) dX4_takeTurn_17 (fun H locs hP hD hS => ?_)
    obtain ⟨gM3, egM3, hsp⟩ := z_lt hsp
    have hP : va_P dD vwCl ([zM q aR aD ca gM3]) H := by rw [egM3]; exact hP
    have hD : va_D A ([zM q aR aD ca gM3]) := by rw [egM3]; exact hD
    refine lv_iconst (v := 1) hx hb dX4_takeTurn_20 (by decide) ?_
    obtain ⟨rfl, rfl⟩ := z_i2 hsp
    exact hret _ _ ls 21 dX4_takeTurn_21 rfl hP hD hS
  · have hsp := z_f c1 hsp
    refine lv_iconst (v := 0) hx hb dX4_takeTurn_8 (by decide) ?_
    obtain ⟨rfl, rfl⟩ := z_i2 hsp
    exact hret _ _ ls 9 dX4_takeTurn_9 rfl hP hD hS
def s_X4_losePower_b11 (gR : zF) (gM_ : zF) (gB_ : zF) (mk_ : zF) (mx_ : zF) (gI_ : zF) (gD_ : zF) (lo2 : Int32) : Option ((zF) × (zF) × (zF) × (zF) × (zF) × (zF)) := zb2 (s_X2_begin gI_ gD_ ((gR 1)) (lo2)) fun (gI2 : zF) (gD3 : zF) => zl (va_up gM_ 10 ((-1))) fun (gM5 : zF) => zl (va_up gM5 11 (0)) fun (gM6 : zF) => zl (va_up gM6 12 (0)) fun (gM7 : zF) => some (gM7, gB_, mk_, mx_, gI2, gD3)
def s_X4_losePower (gM : zF) (gB : zF) (mk : zF) (mx : zF) (gI : zF) (gR : zF) (gD : zF) (p1 : Int32) (p2 : Int32) : Option ((zF) × (zF) × (zF) × (zF) × (zF) × (zF)) := (if p1 = 0 then (s_X4_losePower_b11 gR gM gB mk mx gI gD (p2)) else zb3 (s_X0_tearLeast gB mk mx) fun (gB8 : zF) (mk9 : zF) (mx10 : zF) => (s_X4_losePower_b11 gR gM gB8 mk9 mx10 gI gD (p2)))
abbrev rm_X4_losePower : Room := { frames := 2, cells := 0, slots := 0, locals := 44 }
set_option maxHeartbeats 4000000 in
set_option maxRecDepth 100000 in
theorem c_X4_losePower (l : Launch) (dD : va_G) (cI cA : ClassId) (q : Nat → Nat) (aR : Nat) (aD : Nat) (ca : Option Nat) (gM : zF) (gB : zF) (mk : zF) (mx : zF) (gI : zF) (gR : zF) (gD : zF) (p1 : Int32) (p2 : Int32) (r_gM : zF) (r_gB : zF) (r_mk : zF) (r_mx : zF) (r_gI : zF) (r_gD : zF) (hsp : s_X4_losePower gM gB mk mx gI gR gD p1 p2 = some (r_gM, r_gB, r_mk, r_mx, r_gI, r_gD)) : zMv l yX4_losePower wsX4_losePower rm_X4_losePower dD cI cA [.ref (q 0), .int p1, .int p2] ([zM q aR aD ca gM, zB q gB, zA cI (q 2) 12 mk, zA cI (q 3) 12 mx, zI q gI, zR aR gR, zD aD gD]) ([zM q aR aD ca r_gM, zB q r_gB, zA cI (q 2) 12 r_mk, zA cI (q 3) 12 r_mx, zI q r_gI, zR aR gR, zD aD r_gD]) := by
  refine zMv_of (cc := cX4_losePower) (maxL := 3) (by decide) rfl (Nat.le_of_ble_eq_true rfl) ?_
  intro p e s m args below meth c A Q ls hx hb hml hown hts hK hA hP hD hl hret
  have hown : s.vm.findClass RX4 = some m.cls := hown
  have iX4 : ∀ w ∈ wsX40, w ∈ wsX4_losePower := by decide +kernel
  have iX5 : ∀ w ∈ wsX50, w ∈ wsX4_losePower := by decide +kernel
  have f21 := hts (.fieldLink RX4 21 "MeshField$Machine" "interval" "LMeshField$Interval;") (by decide +kernel)
  have f36 := hts (.fieldLink RX4 36 "MeshField$Machine" "rules" "LMeshField$Rules;") (by decide +kernel)
  have f78 : (Cond.fieldLinkNest RX4 78 "MeshField$Rules" "low" "I" "MeshField").before args s = true := hK.nw (by decide +kernel)
  have f40 := hts (.fieldLink RX4 40 "MeshField$Machine" "draws" "LMeshField$Draws;") (by decide +kernel)
  have f32 := hts (.fieldLink RX4 32 "MeshField$Machine" "dataAt" "I") (by decide +kernel)
  have f87 := hts (.fieldLink RX4 87 "MeshField$Machine" "turnNumber" "I") (by decide +kernel)
  have f90 := hts (.fieldLink RX4 90 "MeshField$Machine" "turnTick" "I") (by decide +kernel)
  have f12 := hts (.fieldLink RX4 12 "MeshField$Machine" "basis" "LMeshField$Basis;") (by decide +kernel)
  have hS : va_S A s.heap s.heap [] := va_S.rf
  have hl : lv_has ls 3 [(0, .ref (q 0)), (1, .int p1), (2, .int p2)] := hl
  have K_11 : ∀ (H : Heap) (locs : List Loc) (ls : Array Slot) (gM_ : zF) (gB_ : zF) (mk_ : zF) (mx_ : zF) (gI_ : zF) (gD_ : zF) (lo2 : Int32), va_P dD vwCl ([zM q aR aD ca gM_, zB q gB_, zA cI (q 2) 12 mk_, zA cI (q 3) 12 mx_, zI q gI_, zR aR gR, zD aD gD_]) H → va_D A ([zM q aR aD ca gM_, zB q gB_, zA cI (q 2) 12 mk_, zA cI (q 3) 12 mx_, zI q gI_, zR aR gR, zD aD gD_]) → va_S A s.heap H locs → lv_has ls 3 [(0, .ref (q 0)), (2, .int lo2)] → s_X4_losePower_b11 gR gM_ gB_ mk_ mx_ gI_ gD_ lo2 = some (r_gM, r_gB, r_mk, r_mx, r_gI, r_gD) → W p l e rm_X4_losePower s m args below meth c H locs 0 0 Q (F0 m 11 ls []) := by
    intro H locs ls gM_ gB_ mk_ mx_ gI_ gD_ lo2 hP hD hS hl hsp
    unfold s_X4_losePower_b11 at hsp
    refine lv_aload_n hx hb dX4_losePower_11 rfl (lv_at hl 0 rfl) ?_
    refine va_get (D := dD) (ci := 4) (v := .ref (q 4)) (C := RX4) (T := TX4) (N := 18) hx hb hts iX4 hown hK.1 hP 0 rfl rfl 3 (by decide) f21 (fun _ h9 => h9) rfl dX4_losePower_12 ?_
    refine lv_aload_n hx hb dX4_losePower_15 rfl (lv_at hl 0 rfl) ?_
    refine va_get (D := dD) (ci := 4) (v := .ref aR) (C := RX4) (T := TX4) (N := 18) hx hb hts iX4 hown hK.1 hP 0 rfl rfl 0 (by decide) f36 (fun _ h9 => h9) rfl dX4_losePower_16 ?_
    refine va_getN (D := dD) (ci := 5) (v := .int (gR 1)) (C := RX5) (T := TX5) (N := 4) hx hb hts iX5 hown hK.1 hP 5 rfl rfl 1 (by decide) f78 (fun _ h9 => h9) rfl dX4_losePower_19 ?_
    refine lv_iload_n hx hb dX4_losePower_22 rfl (lv_at hl 1 rfl) ?_
    refine lv_aload_n hx hb dX4_losePower_23 rfl (lv_at hl 0 rfl) ?_
    refine va_get (D := dD) (ci := 4) (v := .ref aD) (C := RX4) (T := TX4) (N := 18) hx hb hts iX4 hown hK.1 hP 0 rfl rfl 1 (by decide) f40 (fun _ h9 => h9) rfl dX4_losePower_24 ?_
    obtain ⟨gI2, gD3, hc4, hsp⟩ := z_b2 hsp
    refine z_callVv ⟨hx, hb, hml, hown, hts⟩ hK (c_X2_begin l dD cI cA q aD gI_ gD_ ((gR 1)) (lo2) gI2 gD3 hc4) (cwV 3 hts gX4_losePower_X2_begin rfl rfl rfl (by decide +kernel) ⟨Nat.le_of_ble_eq_true rfl, Nat.le_of_ble_eq_true rfl⟩) (zJ.of (wc := [zI q gI_, zD aD gD_]) (wc1 := [zI q gI2, zD aD gD3]) (wr := [zM q aR aD ca gM_, zB q gB_, zA cI (q 2) 12 mk_, zA cI (q 3) 12 mx_, zR aR gR]) (w2 := [zM q aR aD ca gM_, zB q gB_, zA cI (q 2) 12 mk_, zA cI (q 3) 12 mx_, zI q gI2, zR aR gR, zD aD gD3]) hP hD hS hA [4, 6] [0, 1, 2, 3, 5] [0, 1, 2, 3, 5, 4, 6] rfl rfl rfl rfl rfl rfl rfl) hS 0 2 rfl rfl rfl rfl hl.1 rfl (Nat.le_of_ble_eq_true rfl) dX4_losePower_27 ⟨Nat.zero_le _, Nat.zero_le _⟩ (fun H locs hP hD hS => ?_)
    refine lv_aload_n hx hb dX4_losePower_30 rfl (lv_at hl 0 rfl) ?_
    refine lv_iconst (v := (-1)) hx hb dX4_losePower_31 (by decide) ?_
    refine va_put (D := dD) (ci := 4) (v := .int (-1)) (ty := .int) (C := RX4) (T := TX4) (N := 18) hx hb hts iX4 tyX4 tyX4_ok nmX4 hown hK.1 hP hD hS 0 rfl rfl 10 (by decide) f32 (fun _ h9 => h9) rfl (by decide +kernel) rfl rfl (Nat.le_of_ble_eq_true rfl) dX4_losePower_32 (fun H locs hP hD hS => ?_)
    obtain ⟨gM5, egM5, hsp⟩ := z_lt hsp
    have hP : va_P dD vwCl ([zM q aR aD ca gM5, zB q gB_, zA cI (q 2) 12 mk_, zA cI (q 3) 12 mx_, zI q gI2, zR aR gR, zD aD gD3]) H := by rw [egM5]; exact hP
    have hD : va_D A ([zM q aR aD ca gM5, zB q gB_, zA cI (q 2) 12 mk_, zA cI (q 3) 12 mx_, zI q gI2, zR aR gR, zD aD gD3]) := by rw [egM5]; exact hD
    refine lv_aload_n hx hb dX4_losePower_35 rfl (lv_at hl 0 rfl) ?_
    refine lv_iconst (v := 0) hx hb dX4_losePower_36 (by decide) ?_
    refine va_put (D := dD) (ci := 4) (v := .int 0) (ty := .int) (C := RX4) (T := TX4) (N := 18) hx hb hts iX4 tyX4 tyX4_ok nmX4 hown hK.1 hP hD hS 0 rfl rfl 11 (by decide) f87 (fun _ h9 => h9) rfl (by decide +kernel) rfl rfl (Nat.le_of_ble_eq_true rfl) dX4_losePower_37 (fun H locs hP hD hS => ?_)
    obtain ⟨gM6, egM6, hsp⟩ := z_lt hsp
    have hP : va_P dD vwCl ([zM q aR aD ca gM6, zB q gB_, zA cI (q 2) 12 mk_, zA cI (q 3) 12 mx_, zI q gI2, zR aR gR, zD aD gD3]) H := by rw [egM6]; exact hP
    have hD : va_D A ([zM q aR aD ca gM6, zB q gB_, zA cI (q 2) 12 mk_, zA cI (q 3) 12 mx_, zI q gI2, zR aR gR, zD aD gD3]) := by rw [egM6]; exact hD
    refine lv_aload_n hx hb dX4_losePower_40 rfl (lv_at hl 0 rfl) ?_
    refine lv_iconst (v := 0) hx hb dX4_losePower_41 (by decide) ?_
    refine va_put (D := dD) (ci := 4) (v := .int 0) (ty := .int) (C := RX4) (T := TX4) (N := 18) hx hb hts iX4 tyX4 tyX4_ok nmX4 hown hK.1 hP hD hS 0 rfl rfl 12 (by decide) f90 (fun _ h9 => h9) rfl (by decide +kernel) rfl rfl (Nat.le_of_ble_eq_true rfl) dX4_losePower_42 (fun H locs hP hD hS => ?_)
    obtain ⟨gM7, egM7, hsp⟩ := z_lt hsp
    have hP : va_P dD vwCl ([zM q aR aD ca gM7, zB q gB_, zA cI (q 2) 12 mk_, zA cI (q 3) 12 mx_, zI q gI2, zR aR gR, zD aD gD3]) H := by rw [egM7]; exact hP
    have hD : va_D A ([zM q aR aD ca gM7, zB q gB_, zA cI (q 2) 12 mk_, zA cI (q 3) 12 mx_, zI q gI2, zR aR gR, zD aD gD3]) := by rw [egM7]; exact hD
    obtain ⟨rfl, rfl, rfl, rfl, rfl, rfl⟩ := z_i6 hsp
    exact hret _ _ ls 45 dX4_losePower_45 hP hD hS
  unfold s_X4_losePower at hsp
  refine lv_iload_n hx hb dX4_losePower_0 rfl (lv_at hl 1 rfl) ?_
  refine lv_if_eq (tgt := 11) hx hb dX4_losePower_1 (by decide) (fun c1 => ?_) (fun c1 => ?_)
  · have hsp := z_t c1 hsp
    exact K_11 _ _ ls gM gB mk mx gI gD (p2) hP hD hS (lv_sub hl [0, 2] rfl) hsp
  · have hsp := z_f c1 hsp
    refine lv_aload_n hx hb dX4_losePower_4 rfl (lv_at hl 0 rfl) ?_
    refine va_get (D := dD) (ci := 4) (v := .ref (q 1)) (C := RX4) (T := TX4) (N := 18) hx hb hts iX4 hown hK.1 hP 0 rfl rfl 2 (by decide) f12 (fun _ h9 => h9) rfl dX4_losePower_5 ?_
    obtain ⟨gB8, mk9, mx10, hc11, hsp⟩ := z_b3 hsp
    refine z_callVv ⟨hx, hb, hml, hown, hts⟩ hK (c_X0_tearLeast l dD cI cA q gB mk mx gB8 mk9 mx10 hc11) (cwV 0 hts gX4_losePower_X0_tearLeast rfl rfl rfl (by decide +kernel) ⟨Nat.le_of_ble_eq_true rfl, Nat.le_of_ble_eq_true rfl⟩) (zJ.of (wc := [zB q gB, zA cI (q 2) 12 mk, zA cI (q 3) 12 mx]) (wc1 := [zB q gB8, zA cI (q 2) 12 mk9, zA cI (q 3) 12 mx10]) (wr := [zM q aR aD ca gM, zI q gI, zR aR gR, zD aD gD]) (w2 := [zM q aR aD ca gM, zB q gB8, zA cI (q 2) 12 mk9, zA cI (q 3) 12 mx10, zI q gI, zR aR gR, zD aD gD]) hP hD hS hA [1, 2, 3] [0, 4, 5, 6] [0, 4, 5, 6, 1, 2, 3] rfl rfl rfl rfl rfl rfl rfl) hS 0 0 rfl rfl rfl rfl hl.1 rfl (Nat.le_of_ble_eq_true rfl) dX4_losePower_8 ⟨Nat.zero_le _, Nat.zero_le _⟩ (fun H locs hP hD hS => ?_)
    exact K_11 _ _ ls gM gB8 mk9 mx10 gI gD (p2) hP hD hS (lv_sub hl [0, 2] rfl) hsp
def s_X4_address (gM : zF) (gB : zF) (gL : zF) (p1 : Int32) : Option (zF) := zl (va_up gL 0 (p1)) fun (gL1 : zF) => zl (va_up gL1 1 ((gM 6))) fun (gL2 : zF) => zl (va_up gL2 2 ((gB 2))) fun (gL3 : zF) => zl (va_up gL3 3 ((gM 7))) fun (gL4 : zF) => zl (va_up gL4 4 ((gM 8))) fun (gL5 : zF) => zl (va_up gL5 7 ((gM 11))) fun (gL6 : zF) => zl (va_up gL6 8 ((gM 12))) fun (gL7 : zF) => some (gL7)
abbrev rm_X4_address : Room := { frames := 0, cells := 0, slots := 0, locals := 0 }
set_option maxHeartbeats 4000000 in
set_option maxRecDepth 100000 in
theorem c_X4_address (l : Launch) (dD : va_G) (cI cA : ClassId) (q : Nat → Nat) (aR : Nat) (aD : Nat) (ca : Option Nat) (gM : zF) (gB : zF) (gL : zF) (p1 : Int32) (r_gL : zF) (hsp : s_X4_address gM gB gL p1 = some (r_gL)) : zMv l yX4_address wsX4_address rm_X4_address dD cI cA [.ref (q 0), .int p1] ([zM q aR aD ca gM, zB q gB, zL (q 5) gL]) ([zM q aR aD ca gM, zB q gB, zL (q 5) r_gL]) := by
  refine zMv_of (cc := cX4_address) (maxL := 2) (by decide) rfl (Nat.le_of_ble_eq_true rfl) ?_
  intro p e s m args below meth c A Q ls hx hb hml hown hts hK hA hP hD hl hret
  have hown : s.vm.findClass RX4 = some m.cls := hown
  have iX4 : ∀ w ∈ wsX40, w ∈ wsX4_address := by decide +kernel
  have iX3 : ∀ w ∈ wsX30, w ∈ wsX4_address := by decide +kernel
  have iX0 : ∀ w ∈ wsX00, w ∈ wsX4_address := by decide +kernel
  have f28 := hts (.fieldLink RX4 28 "MeshField$Machine" "letter" "LMeshField$Letter;") (by decide +kernel)
  have f125 : (Cond.fieldLinkNest RX4 125 "MeshField$Letter" "kind" "I" "MeshField").before args s = true := hK.nw (by decide +kernel)
  have f59 := hts (.fieldLink RX4 59 "MeshField$Machine" "number" "I") (by decide +kernel)
  have f128 : (Cond.fieldLinkNest RX4 128 "MeshField$Letter" "number" "I" "MeshField").before args s = true := hK.nw (by decide +kernel)
  have f12 := hts (.fieldLink RX4 12 "MeshField$Machine" "basis" "LMeshField$Basis;") (by decide +kernel)
  have f68 : (Cond.fieldLinkNest RX4 68 "MeshField$Basis" "rank" "I" "MeshField").before args s = true := hK.nw (by decide +kernel)
  have f129 : (Cond.fieldLinkNest RX4 129 "MeshField$Letter" "rank" "I" "MeshField").before args s = true := hK.nw (by decide +kernel)
  have f62 := hts (.fieldLink RX4 62 "MeshField$Machine" "pieces" "I") (by decide +kernel)
  have f130 : (Cond.fieldLinkNest RX4 130 "MeshField$Letter" "pieces" "I" "MeshField").before args s = true := hK.nw (by decide +kernel)
  have f56 := hts (.fieldLink RX4 56 "MeshField$Machine" "keptSum" "I") (by decide +kernel)
  have f131 : (Cond.fieldLinkNest RX4 131 "MeshField$Letter" "programSum" "I" "MeshField").before args s = true := hK.nw (by decide +kernel)
  have f87 := hts (.fieldLink RX4 87 "MeshField$Machine" "turnNumber" "I") (by decide +kernel)
  have f134 : (Cond.fieldLinkNest RX4 134 "MeshField$Letter" "turnNumber" "I" "MeshField").before args s = true := hK.nw (by decide +kernel)
  have f90 := hts (.fieldLink RX4 90 "MeshField$Machine" "turnTick" "I") (by decide +kernel)
  have f135 : (Cond.fieldLinkNest RX4 135 "MeshField$Letter" "turnTick" "I" "MeshField").before args s = true := hK.nw (by decide +kernel)
  have hS : va_S A s.heap s.heap [] := va_S.rf
  have hl : lv_has ls 2 [(0, .ref (q 0)), (1, .int p1)] := hl
  unfold s_X4_address at hsp
  refine lv_aload_n hx hb dX4_address_0 rfl (lv_at hl 0 rfl) ?_
  refine va_get (D := dD) (ci := 4) (v := .ref (q 5)) (C := RX4) (T := TX4) (N := 18) hx hb hts iX4 hown hK.1 hP 0 rfl rfl 4 (by decide) f28 (fun _ h9 => h9) rfl dX4_address_1 ?_
  refine lv_iload_n hx hb dX4_address_4 rfl (lv_at hl 1 rfl) ?_
  refine va_putN (D := dD) (ci := 3) (v := .int p1) (ty := .int) (C := RX3) (T := TX3) (N := 9) hx hb hts iX3 tyX3 tyX3_ok nmX3 hown hK.1 hP hD hS 2 rfl rfl 0 (by decide) f125 (fun _ h9 => h9) rfl (by decide +kernel) rfl rfl (Nat.le_of_ble_eq_true rfl) dX4_address_5 (fun H locs hP hD hS => ?_)
  obtain ⟨gL1, egL1, hsp⟩ := z_lt hsp
  have hP : va_P dD vwCl ([zM q aR aD ca gM, zB q gB, zL (q 5) gL1]) H := by rw [egL1]; exact hP
  have hD : va_D A ([zM q aR aD ca gM, zB q gB, zL (q 5) gL1]) := by rw [egL1]; exact hD
  refine lv_aload_n hx hb dX4_address_8 rfl (lv_at hl 0 rfl) ?_
  refine va_get (D := dD) (ci := 4) (v := .ref (q 5)) (C := RX4) (T := TX4) (N := 18) hx hb hts iX4 hown hK.1 hP 0 rfl rfl 4 (by decide) f28 (fun _ h9 => h9) rfl dX4_address_9 ?_
  refine lv_aload_n hx hb dX4_address_12 rfl (lv_at hl 0 rfl) ?_
  refine va_get (D := dD) (ci := 4) (v := .int (gM 6)) (C := RX4) (T := TX4) (N := 18) hx hb hts iX4 hown hK.1 hP 0 rfl rfl 6 (by decide) f59 (fun _ h9 => h9) rfl dX4_address_13 ?_
  refine va_putN (D := dD) (ci := 3) (v := .int (gM 6)) (ty := .int) (C := RX3) (T := TX3) (N := 9) hx hb hts iX3 tyX3 tyX3_ok nmX3 hown hK.1 hP hD hS 2 rfl rfl 1 (by decide) f128 (fun _ h9 => h9) rfl (by decide +kernel) rfl rfl (Nat.le_of_ble_eq_true rfl) dX4_address_16 (fun H locs hP hD hS => ?_)
  obtain ⟨gL2, egL2, hsp⟩ := z_lt hsp
  have hP : va_P dD vwCl ([zM q aR aD ca gM, zB q gB, zL (q 5) gL2]) H := by rw [egL2]; exact hP
  have hD : va_D A ([zM q aR aD ca gM, zB q gB, zL (q 5) gL2]) := by rw [egL2]; exact hD
  refine lv_aload_n hx hb dX4_address_19 rfl (lv_at hl 0 rfl) ?_
  refine va_get (D := dD) (ci := 4) (v := .ref (q 5)) (C := RX4) (T := TX4) (N := 18) hx hb hts iX4 hown hK.1 hP 0 rfl rfl 4 (by decide) f28 (fun _ h9 => h9) rfl dX4_address_20 ?_
  refine lv_aload_n hx hb dX4_address_23 rfl (lv_at hl 0 rfl) ?_
  refine va_get (D := dD) (ci := 4) (v := .ref (q 1)) (C := RX4) (T := TX4) (N := 18) hx hb hts iX4 hown hK.1 hP 0 rfl rfl 2 (by decide) f12 (fun _ h9 => h9) rfl dX4_address_24 ?_
  refine va_getN (D := dD) (ci := 0) (v := .int (gB 2)) (C := RX0) (T := TX0) (N := 3) hx hb hts iX0 hown hK.1 hP 1 rfl rfl 2 (by decide) f68 (fun _ h9 => h9) rfl dX4_address_27 ?_
  refine va_putN (D := dD) (ci := 3) (v := .int (gB 2)) (ty := .int) (C := RX3) (T := TX3) (N := 9) hx hb hts iX3 tyX3 tyX3_ok nmX3 hown hK.1 hP hD hS 2 rfl rfl 2 (by decide) f129 (fun _ h9 => h9) rfl (by decide +kernel) rfl rfl (Nat.le_of_ble_eq_true rfl) dX4_address_30 (fun H locs hP hD hS => ?_)
  obtain ⟨gL3, egL3, hsp⟩ := z_lt hsp
  have hP : va_P dD vwCl ([zM q aR aD ca gM, zB q gB, zL (q 5) gL3]) H := by rw [egL3]; exact hP
  have hD : va_D A ([zM q aR aD ca gM, zB q gB, zL (q 5) gL3]) := by rw [egL3]; exact hD
  refine lv_aload_n hx hb dX4_address_33 rfl (lv_at hl 0 rfl) ?_
  refine va_get (D := dD) (ci := 4) (v := .ref (q 5)) (C := RX4) (T := TX4) (N := 18) hx hb hts iX4 hown hK.1 hP 0 rfl rfl 4 (by decide) f28 (fun _ h9 => h9) rfl dX4_address_34 ?_
  refine lv_aload_n hx hb dX4_address_37 rfl (lv_at hl 0 rfl) ?_
  refine va_get (D := dD) (ci := 4) (v := .int (gM 7)) (C := RX4) (T := TX4) (N := 18) hx hb hts iX4 hown hK.1 hP 0 rfl rfl 7 (by decide) f62 (fun _ h9 => h9) rfl dX4_address_38 ?_
  refine va_putN (D := dD) (ci := 3) (v := .int (gM 7)) (ty := .int) (C := RX3) (T := TX3) (N := 9) hx hb hts iX3 tyX3 tyX3_ok nmX3 hown hK.1 hP hD hS 2 rfl rfl 3 (by decide) f130 (fun _ h9 => h9) rfl (by decide +kernel) rfl rfl (Nat.le_of_ble_eq_true rfl) dX4_address_41 (fun H locs hP hD hS => ?_)
  obtain ⟨gL4, egL4, hsp⟩ := z_lt hsp
  have hP : va_P dD vwCl ([zM q aR aD ca gM, zB q gB, zL (q 5) gL4]) H := by rw [egL4]; exact hP
  have hD : va_D A ([zM q aR aD ca gM, zB q gB, zL (q 5) gL4]) := by rw [egL4]; exact hD
  refine lv_aload_n hx hb dX4_address_44 rfl (lv_at hl 0 rfl) ?_
  refine va_get (D := dD) (ci := 4) (v := .ref (q 5)) (C := RX4) (T := TX4) (N := 18) hx hb hts iX4 hown hK.1 hP 0 rfl rfl 4 (by decide) f28 (fun _ h9 => h9) rfl dX4_address_45 ?_
  refine lv_aload_n hx hb dX4_address_48 rfl (lv_at hl 0 rfl) ?_
  refine va_get (D := dD) (ci := 4) (v := .int (gM 8)) (C := RX4) (T := TX4) (N := 18) hx hb hts iX4 hown hK.1 hP 0 rfl rfl 8 (by decide) f56 (fun _ h9 => h9) rfl dX4_address_49 ?_
  refine va_putN (D := dD) (ci := 3) (v := .int (gM 8)) (ty := .int) (C := RX3) (T := TX3) (N := 9) hx hb hts iX3 tyX3 tyX3_ok nmX3 hown hK.1 hP hD hS 2 rfl rfl 4 (by decide) f131 (fun _ h9 => h9) rfl (by decide +kernel) rfl rfl (Nat.le_of_ble_eq_true rfl) dX4_address_52 (fun H locs hP hD hS => ?_)
  obtain ⟨gL5, egL5, hsp⟩ := z_lt hsp
  have hP : va_P dD vwCl ([zM q aR aD ca gM, zB q gB, zL (q 5) gL5]) H := by rw [egL5]; exact hP
  have hD : va_D A ([zM q aR aD ca gM, zB q gB, zL (q 5) gL5]) := by rw [egL5]; exact hD
  refine lv_aload_n hx hb dX4_address_55 rfl (lv_at hl 0 rfl) ?_
  refine va_get (D := dD) (ci := 4) (v := .ref (q 5)) (C := RX4) (T := TX4) (N := 18) hx hb hts iX4 hown hK.1 hP 0 rfl rfl 4 (by decide) f28 (fun _ h9 => h9) rfl dX4_address_56 ?_
  refine lv_aload_n hx hb dX4_address_59 rfl (lv_at hl 0 rfl) ?_
  refine va_get (D := dD) (ci := 4) (v := .int (gM 11)) (C := RX4) (T := TX4) (N := 18) hx hb hts iX4 hown hK.1 hP 0 rfl rfl 11 (by decide) f87 (fun _ h9 => h9) rfl dX4_address_60 ?_
  refine va_putN (D := dD) (ci := 3) (v := .int (gM 11)) (ty := .int) (C := RX3) (T := TX3) (N := 9) hx hb hts iX3 tyX3 tyX3_ok nmX3 hown hK.1 hP hD hS 2 rfl rfl 7 (by decide) f134 (fun _ h9 => h9) rfl (by decide +kernel) rfl rfl (Nat.le_of_ble_eq_true rfl) dX4_address_63 (fun H locs hP hD hS => ?_)
  obtain ⟨gL6, egL6, hsp⟩ := z_lt hsp
  have hP : va_P dD vwCl ([zM q aR aD ca gM, zB q gB, zL (q 5) gL6]) H := by rw [egL6]; exact hP
  have hD : va_D A ([zM q aR aD ca gM, zB q gB, zL (q 5) gL6]) := by rw [egL6]; exact hD
  refine lv_aload_n hx hb dX4_address_66 rfl (lv_at hl 0 rfl) ?_
  refine va_get (D := dD) (ci := 4) (v := .ref (q 5)) (C := RX4) (T := TX4) (N := 18) hx hb hts iX4 hown hK.1 hP 0 rfl rfl 4 (by decide) f28 (fun _ h9 => h9) rfl dX4_address_67 ?_
  refine lv_aload_n hx hb dX4_address_70 rfl (lv_at hl 0 rfl) ?_
  refine va_get (D := dD) (ci := 4) (v := .int (gM 12)) (C := RX4) (T := TX4) (N := 18) hx hb hts iX4 hown hK.1 hP 0 rfl rfl 12 (by decide) f90 (fun _ h9 => h9) rfl dX4_address_71 ?_
  refine va_putN (D := dD) (ci := 3) (v := .int (gM 12)) (ty := .int) (C := RX3) (T := TX3) (N := 9) hx hb hts iX3 tyX3 tyX3_ok nmX3 hown hK.1 hP hD hS 2 rfl rfl 8 (by decide) f135 (fun _ h9 => h9) rfl (by decide +kernel) rfl rfl (Nat.le_of_ble_eq_true rfl) dX4_address_74 (fun H locs hP hD hS => ?_)
  obtain ⟨gL7, egL7, hsp⟩ := z_lt hsp
  have hP : va_P dD vwCl ([zM q aR aD ca gM, zB q gB, zL (q 5) gL7]) H := by rw [egL7]; exact hP
  have hD : va_D A ([zM q aR aD ca gM, zB q gB, zL (q 5) gL7]) := by rw [egL7]; exact hD
  obtain rfl := Option.some.inj hsp
  exact hret _ _ ls 77 dX4_address_77 hP hD hS
def s_X4_send_b122 (gB : zF) (mk : zF) (mx : zF) (gI : zF) (gR : zF) (gM_ : zF) (gL_ : zF) (gD_ : zF) : Option ((zF) × (zF) × (zF)) := zl (va_up gL_ 0 (0)) fun (gL5 : zF) => some (gM_, gL5, gD_)
def s_X4_send_b76 (gB : zF) (mk : zF) (mx : zF) (gI : zF) (gR : zF) (gM_ : zF) (gL_ : zF) (gD_ : zF) (lo1 : Int32) : Option ((zF) × (zF) × (zF)) := (if (gI 2) = lo1 then (if (gR 0) ≤ (gI 3) then (s_X4_send_b122 gB mk mx gI gR gM_ gL_ gD_) else zb1 (s_X4_address gM_ gB gL_ (1)) fun (gL7 : zF) => zl (va_up gM_ 13 (((gM_ 13) + 1))) fun (gM9 : zF) => some (gM9, gL7, gD_)) else (s_X4_send_b122 gB mk mx gI gR gM_ gL_ gD_))
def s_X4_send_b23 (gB : zF) (mk : zF) (mx : zF) (gI : zF) (gR : zF) (gM_ : zF) (gL_ : zF) (gD_ : zF) (lo1 : Int32) (lo2 : Int32) : Option ((zF) × (zF) × (zF)) := (if lo2 = 0 then (s_X4_send_b76 gB mk mx gI gR gM_ gL_ gD_ (lo1)) else (if (gB 2) ≤ 0 then (s_X4_send_b76 gB mk mx gI gR gM_ gL_ gD_ (lo1)) else zb2 (s_X1_below gD_ (4096)) fun (v11 : Int32) (gD12 : zF) => zb1 (s_X0_mixInto gB mk mx gL_ (v11)) fun (gL14 : zF) => zb1 (s_X4_address gM_ gB gL14 (2)) fun (gL16 : zF) => zl (va_up gM_ 14 (((gM_ 14) + 1))) fun (gM18 : zF) => some (gM18, gL16, gD12)))
def s_X4_send_b13 (gB : zF) (mk : zF) (mx : zF) (gI : zF) (gR : zF) (gM_ : zF) (gL_ : zF) (gD_ : zF) (lo1 : Int32) (t0 : Int32) : Option ((zF) × (zF) × (zF)) := (if t0 = 0 then (s_X4_send_b23 gB mk mx gI gR gM_ gL_ gD_ (lo1) (t0)) else zl (va_up gM_ 10 ((-1))) fun (gM19 : zF) => (s_X4_send_b23 gB mk mx gI gR gM19 gL_ gD_ (lo1) (t0)))
def s_X4_send (gM : zF) (gB : zF) (mk : zF) (mx : zF) (gI : zF) (gL : zF) (gR : zF) (gD : zF) (p1 : Int32) : Option ((zF) × (zF) × (zF)) := (if (gM 10) = p1 then (s_X4_send_b13 gB mk mx gI gR gM gL gD (p1) (1)) else (s_X4_send_b13 gB mk mx gI gR gM gL gD (p1) (0)))
abbrev rm_X4_send : Room := { frames := 3, cells := 0, slots := 0, locals := 69 }
set_option maxHeartbeats 4000000 in
set_option maxRecDepth 100000 in
theorem c_X4_send (l : Launch) (dD : va_G) (cI cA : ClassId) (q : Nat → Nat) (aR : Nat) (aD : Nat) (ca : Option Nat) (gM : zF) (gB : zF) (mk : zF) (mx : zF) (gI : zF) (gL : zF) (gR : zF) (gD : zF) (p1 : Int32) (r_gM : zF) (r_gL : zF) (r_gD : zF) (hsp : s_X4_send gM gB mk mx gI gL gR gD p1 = some (r_gM, r_gL, r_gD)) : zMv l yX4_send wsX4_send rm_X4_send dD cI cA [.ref (q 0), .int p1] ([zM q aR aD ca gM, zB q gB, zA cI (q 2) 12 mk, zA cI (q 3) 12 mx, zI q gI, zL (q 5) gL, zR aR gR, zD aD gD]) ([zM q aR aD ca r_gM, zB q gB, zA cI (q 2) 12 mk, zA cI (q 3) 12 mx, zI q gI, zL (q 5) r_gL, zR aR gR, zD aD r_gD]) := by
  refine zMv_of (cc := cX4_send) (maxL := 3) (by decide) rfl (Nat.le_of_ble_eq_true rfl) ?_
  intro p e s m args below meth c A Q ls hx hb hml hown hts hK hA hP hD hl hret
  have hown : s.vm.findClass RX4 = some m.cls := hown
  have iX4 : ∀ w ∈ wsX40, w ∈ wsX4_send := by decide +kernel
  have iX2 : ∀ w ∈ wsX20, w ∈ wsX4_send := by decide +kernel
  have iX3 : ∀ w ∈ wsX30, w ∈ wsX4_send := by decide +kernel
  have iX5 : ∀ w ∈ wsX50, w ∈ wsX4_send := by decide +kernel
  have iX0 : ∀ w ∈ wsX00, w ∈ wsX4_send := by decide +kernel
  have f32 := hts (.fieldLink RX4 32 "MeshField$Machine" "dataAt" "I") (by decide +kernel)
  have f21 := hts (.fieldLink RX4 21 "MeshField$Machine" "interval" "LMeshField$Interval;") (by decide +kernel)
  have f113 : (Cond.fieldLinkNest RX4 113 "MeshField$Interval" "tellsAt" "I" "MeshField").before args s = true := hK.nw (by decide +kernel)
  have f28 := hts (.fieldLink RX4 28 "MeshField$Machine" "letter" "LMeshField$Letter;") (by decide +kernel)
  have f125 : (Cond.fieldLinkNest RX4 125 "MeshField$Letter" "kind" "I" "MeshField").before args s = true := hK.nw (by decide +kernel)
  have f116 : (Cond.fieldLinkNest RX4 116 "MeshField$Interval" "heard" "I" "MeshField").before args s = true := hK.nw (by decide +kernel)
  have f36 := hts (.fieldLink RX4 36 "MeshField$Machine" "rules" "LMeshField$Rules;") (by decide +kernel)
  have f119 : (Cond.fieldLinkNest RX4 119 "MeshField$Rules" "few" "I" "MeshField").before args s = true := hK.nw (by decide +kernel)
  have f122 := hts (.fieldLink RX4 122 "MeshField$Machine" "tellsSent" "I") (by decide +kernel)
  have f12 := hts (.fieldLink RX4 12 "MeshField$Machine" "basis" "LMeshField$Basis;") (by decide +kernel)
  have f68 : (Cond.fieldLinkNest RX4 68 "MeshField$Basis" "rank" "I" "MeshField").before args s = true := hK.nw (by decide +kernel)
  have f40 := hts (.fieldLink RX4 40 "MeshField$Machine" "draws" "LMeshField$Draws;") (by decide +kernel)
  have f110 := hts (.fieldLink RX4 110 "MeshField$Machine" "mixesSent" "I") (by decide +kernel)
  have hS : va_S A s.heap s.heap [] := va_S.rf
  have hl : lv_has ls 3 [(0, .ref (q 0)), (1, .int p1)] := hl
  have K_122 : ∀ (H : Heap) (locs : List Loc) (ls : Array Slot) (gM_ : zF) (gL_ : zF) (gD_ : zF), va_P dD vwCl ([zM q aR aD ca gM_, zB q gB, zA cI (q 2) 12 mk, zA cI (q 3) 12 mx, zI q gI, zL (q 5) gL_, zR aR gR, zD aD gD_]) H → va_D A ([zM q aR aD ca gM_, zB q gB, zA cI (q 2) 12 mk, zA cI (q 3) 12 mx, zI q gI, zL (q 5) gL_, zR aR gR, zD aD gD_]) → va_S A s.heap H locs → lv_has ls 3 [(0, .ref (q 0))] → s_X4_send_b122 gB mk mx gI gR gM_ gL_ gD_ = some (r_gM, r_gL, r_gD) → W p l e rm_X4_send s m args below meth c H locs 0 0 Q (F0 m 122 ls []) := by
    intro H locs ls gM_ gL_ gD_ hP hD hS hl hsp
    unfold s_X4_send_b122 at hsp
    refine lv_aload_n hx hb dX4_send_122 rfl (lv_at hl 0 rfl) ?_
    refine va_get (D := dD) (ci := 4) (v := .ref (q 5)) (C := RX4) (T := TX4) (N := 18) hx hb hts iX4 hown hK.1 hP 0 rfl rfl 4 (by decide) f28 (fun _ h9 => h9) rfl dX4_send_123 ?_
    refine lv_iconst (v := 0) hx hb dX4_send_126 (by decide) ?_
    refine va_putN (D := dD) (ci := 3) (v := .int 0) (ty := .int) (C := RX3) (T := TX3) (N := 9) hx hb hts iX3 tyX3 tyX3_ok nmX3 hown hK.1 hP hD hS 5 rfl rfl 0 (by decide) f125 (fun _ h9 => h9) rfl (by decide +kernel) rfl rfl (Nat.le_of_ble_eq_true rfl) dX4_send_127 (fun H locs hP hD hS => ?_)
    obtain ⟨gL5, egL5, hsp⟩ := z_lt hsp
    have hP : va_P dD vwCl ([zM q aR aD ca gM_, zB q gB, zA cI (q 2) 12 mk, zA cI (q 3) 12 mx, zI q gI, zL (q 5) gL5, zR aR gR, zD aD gD_]) H := by rw [egL5]; exact hP
    have hD : va_D A ([zM q aR aD ca gM_, zB q gB, zA cI (q 2) 12 mk, zA cI (q 3) 12 mx, zI q gI, zL (q 5) gL5, zR aR gR, zD aD gD_]) := by rw [egL5]; exact hD
    obtain ⟨rfl, rfl, rfl⟩ := z_i3 hsp
    exact hret _ _ ls 130 dX4_send_130 hP hD hS
  have K_76 : ∀ (H : Heap) (locs : List Loc) (ls : Array Slot) (gM_ : zF) (gL_ : zF) (gD_ : zF) (lo1 : Int32), va_P dD vwCl ([zM q aR aD ca gM_, zB q gB, zA cI (q 2) 12 mk, zA cI (q 3) 12 mx, zI q gI, zL (q 5) gL_, zR aR gR, zD aD gD_]) H → va_D A ([zM q aR aD ca gM_, zB q gB, zA cI (q 2) 12 mk, zA cI (q 3) 12 mx, zI q gI, zL (q 5) gL_, zR aR gR, zD aD gD_]) → va_S A s.heap H locs → lv_has ls 3 [(0, .ref (q 0)), (1, .int lo1)] → s_X4_send_b76 gB mk mx gI gR gM_ gL_ gD_ lo1 = some (r_gM, r_gL, r_gD) → W p l e rm_X4_send s m args below meth c H locs 0 0 Q (F0 m 76 ls []) := by
    intro H locs ls gM_ gL_ gD_ lo1 hP hD hS hl hsp
    unfold s_X4_send_b76 at hsp
    refine lv_aload_n hx hb dX4_send_76 rfl (lv_at hl 0 rfl) ?_
    refine va_get (D := dD) (ci := 4) (v := .ref (q 4)) (C := RX4) (T := TX4) (N := 18) hx hb hts iX4 hown hK.1 hP 0 rfl rfl 3 (by decide) f21 (fun _ h9 => h9) rfl dX4_send_77 ?_
    refine va_getN (D := dD) (ci := 2) (v := .int (gI 2)) (C := RX2) (T := TX2) (N := 4) hx hb hts iX2 hown hK.1 hP 4 rfl rfl 2 (by decide) f113 (fun _ h9 => h9) rfl dX4_send_80 ?_
    refine lv_iload_n hx hb dX4_send_83 rfl (lv_at hl 1 rfl) ?_
    refine lv_icmp_ne (tgt := 122) hx hb dX4_send_84 (by decide) (fun c4 => ?_) (fun c4 => ?_)
    · have hsp := z_f c4 hsp
      exact K_122 _ _ ls gM_ gL_ gD_ hP hD hS (lv_sub hl [0] rfl) hsp
    · have hsp := z_t c4 hsp
      refine lv_aload_n hx hb dX4_send_87 rfl (lv_at hl 0 rfl) ?_
      refine va_get (D := dD) (ci := 4) (v := .ref (q 4)) (C := RX4) (T := TX4) (N := 18) hx hb hts iX4 hown hK.1 hP 0 rfl rfl 3 (by decide) f21 (fun _ h9 => h9) rfl dX4_send_88 ?_
      refine va_getN (D := dD) (ci := 2) (v := .int (gI 3)) (C := RX2) (T := TX2) (N := 4) hx hb hts iX2 hown hK.1 hP 4 rfl rfl 3 (by decide) f116 (fun _ h9 => h9) rfl dX4_send_91 ?_
      refine lv_aload_n hx hb dX4_send_94 rfl (lv_at hl 0 rfl) ?_
      refine va_get (D := dD) (ci := 4) (v := .ref aR) (C := RX4) (T := TX4) (N := 18) hx hb hts iX4 hown hK.1 hP 0 rfl rfl 0 (by decide) f36 (fun _ h9 => h9) rfl dX4_send_95 ?_
      refine va_getN (D := dD) (ci := 5) (v := .int (gR 0)) (C := RX5) (T := TX5) (N := 4) hx hb hts iX5 hown hK.1 hP 6 rfl rfl 0 (by decide) f119 (fun _ h9 => h9) rfl dX4_send_98 ?_
      refine lv_icmp_ge (tgt := 122) hx hb dX4_send_101 (by decide) (fun c6 => ?_) (fun c6 => ?_)
      · have hsp := z_t c6 hsp
        exact K_122 _ _ ls gM_ gL_ gD_ hP hD hS (lv_sub hl [0] rfl) hsp
      · have hsp := z_f c6 hsp
        refine lv_aload_n hx hb dX4_send_104 rfl (lv_at hl 0 rfl) ?_
        refine lv_iconst (v := 1) hx hb dX4_send_105 (by decide) ?_
        obtain ⟨gL7, hc8, hsp⟩ := z_b1 hsp
        refine z_callVv ⟨hx, hb, hml, hown, hts⟩ hK (c_X4_address l dD cI cA q aR aD ca gM_ gB gL_ (1) gL7 hc8) (cwV 1 hts gX4_send_X4_address rfl rfl rfl (by decide +kernel) ⟨Nat.le_of_ble_eq_true rfl, Nat.le_of_ble_eq_true rfl⟩) (zJ.of (wc := [zM q aR aD ca gM_, zB q gB, zL (q 5) gL_]) (wc1 := [zM q aR aD ca gM_, zB q gB, zL (q 5) gL7]) (wr := [zA cI (q 2) 12 mk, zA cI (q 3) 12 mx, zI q gI, zR aR gR, zD aD gD_]) (w2 := [zM q aR aD ca gM_, zB q gB, zA cI (q 2) 12 mk, zA cI (q 3) 12 mx, zI q gI, zL (q 5) gL7, zR aR gR, zD aD gD_]) hP hD hS hA [0, 1, 5] [2, 3, 4, 6, 7] [5, 6, 0, 1, 2, 7, 3, 4] rfl rfl rfl rfl rfl rfl rfl) hS 0 4 rfl rfl rfl rfl hl.1 rfl (Nat.le_of_ble_eq_true rfl) dX4_send_106 ⟨Nat.zero_le _, Nat.zero_le _⟩ (fun H locs hP hD hS => ?_)
        refine lv_aload_n hx hb dX4_send_109 rfl (lv_at hl 0 rfl) ?_
        refine lv_dup hx hb dX4_send_110 rfl ?_
        refine va_get (D := dD) (ci := 4) (v := .int (gM_ 13)) (C := RX4) (T := TX4) (N := 18) hx hb hts iX4 hown hK.1 hP 0 rfl rfl 13 (by decide) f122 (fun _ h9 => h9) rfl dX4_send_111 ?_
        refine lv_iconst (v := 1) hx hb dX4_send_114 (by decide) ?_
        refine lv_iadd hx hb dX4_send_115 ?_
        refine va_put (D := dD) (ci := 4) (v := .int ((gM_ 13) + 1)) (ty := .int) (C := RX4) (T := TX4) (N := 18) hx hb hts iX4 tyX4 tyX4_ok nmX4 hown hK.1 hP hD hS 0 rfl rfl 13 (by decide) f122 (fun _ h9 => h9) rfl (by decide +kernel) rfl rfl (Nat.le_of_ble_eq_true rfl) dX4_send_116 (fun H locs hP hD hS => ?_)
        obtain ⟨gM9, egM9, hsp⟩ := z_lt hsp
        have hP : va_P dD vwCl ([zM q aR aD ca gM9, zB q gB, zA cI (q 2) 12 mk, zA cI (q 3) 12 mx, zI q gI, zL (q 5) gL7, zR aR gR, zD aD gD_]) H := by rw [egM9]; exact hP
        have hD : va_D A ([zM q aR aD ca gM9, zB q gB, zA cI (q 2) 12 mk, zA cI (q 3) 12 mx, zI q gI, zL (q 5) gL7, zR aR gR, zD aD gD_]) := by rw [egM9]; exact hD
        refine lv_goto (tgt := 130) hx hb dX4_send_119 (by decide) ?_
        obtain ⟨rfl, rfl, rfl⟩ := z_i3 hsp
        exact hret _ _ ls 130 dX4_send_130 hP hD hS
  have K_23 : ∀ (H : Heap) (locs : List Loc) (ls : Array Slot) (gM_ : zF) (gL_ : zF) (gD_ : zF) (lo1 : Int32) (lo2 : Int32), va_P dD vwCl ([zM q aR aD ca gM_, zB q gB, zA cI (q 2) 12 mk, zA cI (q 3) 12 mx, zI q gI, zL (q 5) gL_, zR aR gR, zD aD gD_]) H → va_D A ([zM q aR aD ca gM_, zB q gB, zA cI (q 2) 12 mk, zA cI (q 3) 12 mx, zI q gI, zL (q 5) gL_, zR aR gR, zD aD gD_]) → va_S A s.heap H locs → lv_has ls 3 [(0, .ref (q 0)), (1, .int lo1), (2, .int lo2)] → s_X4_send_b23 gB mk mx gI gR gM_ gL_ gD_ lo1 lo2 = some (r_gM, r_gL, r_gD) → W p l e rm_X4_send s m args below meth c H locs 0 0 Q (F0 m 23 ls []) := by
    intro H locs ls gM_ gL_ gD_ lo1 lo2 hP hD hS hl hsp
    unfold s_X4_send_b23 at hsp
    refine lv_iload_n hx hb dX4_send_23 rfl (lv_at hl 2 rfl) ?_
    refine lv_if_eq (tgt := 76) hx hb dX4_send_24 (by decide) (fun c3 => ?_) (fun c3 => ?_)
    · have hsp := z_t c3 hsp
      exact K_76 _ _ ls gM_ gL_ gD_ (lo1) hP hD hS (lv_sub hl [0, 1] rfl) hsp
    · have hsp := z_f c3 hsp
      refine lv_aload_n hx hb dX4_send_27 rfl (lv_at hl 0 rfl) ?_
      refine va_get (D := dD) (ci := 4) (v := .ref (q 1)) (C := RX4) (T := TX4) (N := 18) hx hb hts iX4 hown hK.1 hP 0 rfl rfl 2 (by decide) f12 (fun _ h9 => h9) rfl dX4_send_28 ?_
      refine va_getN (D := dD) (ci := 0) (v := .int (gB 2)) (C := RX0) (T := TX0) (N := 3) hx hb hts iX0 hown hK.1 hP 1 rfl rfl 2 (by decide) f68 (fun _ h9 => h9) rfl dX4_send_31 ?_
      refine lv_if_le (tgt := 76) hx hb dX4_send_34 (by decide) (fun c10 => ?_) (fun c10 => ?_)
      · have hsp := z_t c10 hsp
        exact K_76 _ _ ls gM_ gL_ gD_ (lo1) hP hD hS (lv_sub hl [0, 1] rfl) hsp
      · have hsp := z_f c10 hsp
        refine lv_aload_n hx hb dX4_send_37 rfl (lv_at hl 0 rfl) ?_
        refine va_get (D := dD) (ci := 4) (v := .ref (q 1)) (C := RX4) (T := TX4) (N := 18) hx hb hts iX4 hown hK.1 hP 0 rfl rfl 2 (by decide) f12 (fun _ h9 => h9) rfl dX4_send_38 ?_
        refine lv_aload_n hx hb dX4_send_41 rfl (lv_at hl 0 rfl) ?_
        refine va_get (D := dD) (ci := 4) (v := .ref (q 5)) (C := RX4) (T := TX4) (N := 18) hx hb hts iX4 hown hK.1 hP 0 rfl rfl 4 (by decide) f28 (fun _ h9 => h9) rfl dX4_send_42 ?_
        refine lv_aload_n hx hb dX4_send_45 rfl (lv_at hl 0 rfl) ?_
        refine va_get (D := dD) (ci := 4) (v := .ref aD) (C := RX4) (T := TX4) (N := 18) hx hb hts iX4 hown hK.1 hP 0 rfl rfl 1 (by decide) f40 (fun _ h9 => h9) rfl dX4_send_46 ?_
        refine lv_sipush (v := 4096) hx hb dX4_send_49 (by decide) ?_
        obtain ⟨v11, gD12, hc13, hsp⟩ := z_b2 hsp
        refine z_callVi ⟨hx, hb, hml, hown, hts⟩ hK (c_X1_below l dD cI cA aD gD_ (4096) v11 gD12 hc13) (cwV 1 hts gX4_send_X1_below rfl rfl rfl (by decide +kernel) ⟨Nat.le_of_ble_eq_true rfl, Nat.le_of_ble_eq_true rfl⟩) (zJ.of (wc := [zD aD gD_]) (wc1 := [zD aD gD12]) (wr := [zM q aR aD ca gM_, zB q gB, zA cI (q 2) 12 mk, zA cI (q 3) 12 mx, zI q gI, zL (q 5) gL_, zR aR gR]) (w2 := [zM q aR aD ca gM_, zB q gB, zA cI (q 2) 12 mk, zA cI (q 3) 12 mx, zI q gI, zL (q 5) gL_, zR aR gR, zD aD gD12]) hP hD hS hA [7] [0, 1, 2, 3, 4, 5, 6] [0, 1, 2, 3, 4, 5, 6, 7] rfl rfl rfl rfl rfl rfl rfl) hS 0 1 rfl rfl rfl rfl hl.1 rfl (Nat.le_of_ble_eq_true rfl) dX4_send_52 ⟨Nat.zero_le _, Nat.zero_le _⟩ (fun H locs hP hD hS => ?_)
        obtain ⟨gL14, hc15, hsp⟩ := z_b1 hsp
        refine z_callVv ⟨hx, hb, hml, hown, hts⟩ hK (c_X0_mixInto l dD cI cA q (q 5) gB mk mx gL_ (v11) gL14 hc15) (cwV 2 hts gX4_send_X0_mixInto rfl rfl rfl (by decide +kernel) ⟨Nat.le_of_ble_eq_true rfl, Nat.le_of_ble_eq_true rfl⟩) (zJ.of (wc := [zB q gB, zA cI (q 2) 12 mk, zA cI (q 3) 12 mx, zL (q 5) gL_]) (wc1 := [zB q gB, zA cI (q 2) 12 mk, zA cI (q 3) 12 mx, zL (q 5) gL14]) (wr := [zM q aR aD ca gM_, zI q gI, zR aR gR, zD aD gD12]) (w2 := [zM q aR aD ca gM_, zB q gB, zA cI (q 2) 12 mk, zA cI (q 3) 12 mx, zI q gI, zL (q 5) gL14, zR aR gR, zD aD gD12]) hP hD hS hA [1, 2, 3, 5] [0, 4, 6, 7] [0, 4, 5, 6, 1, 7, 2, 3] rfl rfl rfl rfl rfl rfl rfl) hS 0 0 rfl rfl rfl rfl hl.1 rfl (Nat.le_of_ble_eq_true rfl) dX4_send_55 ⟨Nat.zero_le _, Nat.zero_le _⟩ (fun H locs hP hD hS => ?_)
        refine lv_aload_n hx hb dX4_send_58 rfl (lv_at hl 0 rfl) ?_
        refine lv_iconst (v := 2) hx hb dX4_send_59 (by decide) ?_
        obtain ⟨gL16, hc17, hsp⟩ := z_b1 hsp
        refine z_callVv ⟨hx, hb, hml, hown, hts⟩ hK (c_X4_address l dD cI cA q aR aD ca gM_ gB gL14 (2) gL16 hc17) (cwV 1 hts gX4_send_X4_address rfl rfl rfl (by decide +kernel) ⟨Nat.le_of_ble_eq_true rfl, Nat.le_of_ble_eq_true rfl⟩) (zJ.of (wc := [zM q aR aD ca gM_, zB q gB, zL (q 5) gL14]) (wc1 := [zM q aR aD ca gM_, zB q gB, zL (q 5) gL16]) (wr := [zA cI (q 2) 12 mk, zA cI (q 3) 12 mx, zI q gI, zR aR gR, zD aD gD12]) (w2 := [zM q aR aD ca gM_, zB q gB, zA cI (q 2) 12 mk, zA cI (q 3) 12 mx, zI q gI, zL (q 5) gL16, zR aR gR, zD aD gD12]) hP hD hS hA [0, 1, 5] [2, 3, 4, 6, 7] [5, 6, 0, 1, 2, 7, 3, 4] rfl rfl rfl rfl rfl rfl rfl) hS 0 4 rfl rfl rfl rfl hl.1 rfl (Nat.le_of_ble_eq_true rfl) dX4_send_60 ⟨Nat.zero_le _, Nat.zero_le _⟩ (fun H locs hP hD hS => ?_)
        refine lv_aload_n hx hb dX4_send_63 rfl (lv_at hl 0 rfl) ?_
        refine lv_dup hx hb dX4_send_64 rfl ?_
        refine va_get (D := dD) (ci := 4) (v := .int (gM_ 14)) (C := RX4) (T := TX4) (N := 18) hx hb hts iX4 hown hK.1 hP 0 rfl rfl 14 (by decide) f110 (fun _ h9 => h9) rfl dX4_send_65 ?_
        refine lv_iconst (v := 1) hx hb dX4_send_68 (by decide) ?_
        refine lv_iadd hx hb dX4_send_69 ?_
        refine va_put (D := dD) (ci := 4) (v := .int ((gM_ 14) + 1)) (ty := .int) (C := RX4) (T := TX4) (N := 18) hx hb hts iX4 tyX4 tyX4_ok nmX4 hown hK.1 hP hD hS 0 rfl rfl 14 (by decide) f110 (fun _ h9 => h9) rfl (by decide +kernel) rfl rfl (Nat.le_of_ble_eq_true rfl) dX4_send_70 (fun H locs hP hD hS => ?_)
        obtain ⟨gM18, egM18, hsp⟩ := z_lt hsp
        have hP : va_P dD vwCl ([zM q aR aD ca gM18, zB q gB, zA cI (q 2) 12 mk, zA cI (q 3) 12 mx, zI q gI, zL (q 5) gL16, zR aR gR, zD aD gD12]) H := by rw [egM18]; exact hP
        have hD : va_D A ([zM q aR aD ca gM18, zB q gB, zA cI (q 2) 12 mk, zA cI (q 3) 12 mx, zI q gI, zL (q 5) gL16, zR aR gR, zD aD gD12]) := by rw [egM18]; exact hD
        refine lv_goto (tgt := 130) hx hb dX4_send_73 (by decide) ?_
        obtain ⟨rfl, rfl, rfl⟩ := z_i3 hsp
        exact hret _ _ ls 130 dX4_send_130 hP hD hS
  have K_13 : ∀ (H : Heap) (locs : List Loc) (ls : Array Slot) (gM_ : zF) (gL_ : zF) (gD_ : zF) (lo1 : Int32) (t0 : Int32), va_P dD vwCl ([zM q aR aD ca gM_, zB q gB, zA cI (q 2) 12 mk, zA cI (q 3) 12 mx, zI q gI, zL (q 5) gL_, zR aR gR, zD aD gD_]) H → va_D A ([zM q aR aD ca gM_, zB q gB, zA cI (q 2) 12 mk, zA cI (q 3) 12 mx, zI q gI, zL (q 5) gL_, zR aR gR, zD aD gD_]) → va_S A s.heap H locs → lv_has ls 3 [(0, .ref (q 0)), (1, .int lo1)] → s_X4_send_b13 gB mk mx gI gR gM_ gL_ gD_ lo1 t0 = some (r_gM, r_gL, r_gD) → W p l e rm_X4_send s m args below meth c H locs 0 0 Q (F0 m 13 ls [.int t0]) := by
    intro H locs ls gM_ gL_ gD_ lo1 t0 hP hD hS hl hsp
    unfold s_X4_send_b13 at hsp
    refine lv_istore_n (lv' := [(2, .int t0), (0, .ref (q 0)), (1, .int lo1)]) hx hb dX4_send_13 rfl hl (by decide) rfl (fun ls hl => ?_)
    refine lv_iload_n hx hb dX4_send_14 rfl (lv_at hl 0 rfl) ?_
    refine lv_if_eq (tgt := 23) hx hb dX4_send_15 (by decide) (fun c2 => ?_) (fun c2 => ?_)
    · have hsp := z_t c2 hsp
      exact K_23 _ _ ls gM_ gL_ gD_ (lo1) (t0) hP hD hS (lv_sub hl [1, 2, 0] rfl) hsp
    · have hsp := z_f c2 hsp
      refine lv_aload_n hx hb dX4_send_18 rfl (lv_at hl 1 rfl) ?_
      refine lv_iconst (v := (-1)) hx hb dX4_send_19 (by decide) ?_
      refine va_put (D := dD) (ci := 4) (v := .int (-1)) (ty := .int) (C := RX4) (T := TX4) (N := 18) hx hb hts iX4 tyX4 tyX4_ok nmX4 hown hK.1 hP hD hS 0 rfl rfl 10 (by decide) f32 (fun _ h9 => h9) rfl (by decide +kernel) rfl rfl (Nat.le_of_ble_eq_true rfl) dX4_send_20 (fun H locs hP hD hS => ?_)
      obtain ⟨gM19, egM19, hsp⟩ := z_lt hsp
      have hP : va_P dD vwCl ([zM q aR aD ca gM19, zB q gB, zA cI (q 2) 12 mk, zA cI (q 3) 12 mx, zI q gI, zL (q 5) gL_, zR aR gR, zD aD gD_]) H := by rw [egM19]; exact hP
      have hD : va_D A ([zM q aR aD ca gM19, zB q gB, zA cI (q 2) 12 mk, zA cI (q 3) 12 mx, zI q gI, zL (q 5) gL_, zR aR gR, zD aD gD_]) := by rw [egM19]; exact hD
      exact K_23 _ _ ls gM19 gL_ gD_ (lo1) (t0) hP hD hS (lv_sub hl [1, 2, 0] rfl) hsp
  unfold s_X4_send at hsp
  refine lv_aload_n hx hb dX4_send_0 rfl (lv_at hl 0 rfl) ?_
  refine va_get (D := dD) (ci := 4) (v := .int (gM 10)) (C := RX4) (T := TX4) (N := 18) hx hb hts iX4 hown hK.1 hP 0 rfl rfl 10 (by decide) f32 (fun _ h9 => h9) rfl dX4_send_1 ?_
  refine lv_iload_n hx hb dX4_send_4 rfl (lv_at hl 1 rfl) ?_
  refine lv_icmp_ne (tgt := 12) hx hb dX4_send_5 (by decide) (fun c1 => ?_) (fun c1 => ?_)
  · have hsp := z_f c1 hsp
    refine lv_iconst (v := 0) hx hb dX4_send_12 (by decide) ?_
    exact K_13 _ _ ls gM gL gD (p1) (0) hP hD hS (lv_sub hl [0, 1] rfl) hsp
  · have hsp := z_t c1 hsp
    refine lv_iconst (v := 1) hx hb dX4_send_8 (by decide) ?_
    refine lv_goto (tgt := 13) hx hb dX4_send_9 (by decide) ?_
    exact K_13 _ _ ls gM gL gD (p1) (1) hP hD hS (lv_sub hl [0, 1] rfl) hsp
