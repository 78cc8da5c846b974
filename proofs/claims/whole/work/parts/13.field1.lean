def s_X6_within  (p1 : Int32) (p2 : Int32) (p3 : Int32) : Option Int32 := (if p1 < p2 then some (0) else (if p3 < p1 then some (0) else some (1)))
abbrev rm_X6_within : Room := { frames := 0, cells := 0, slots := 0, locals := 0 }
set_option maxHeartbeats 4000000 in
set_option maxRecDepth 100000 in
theorem c_X6_within (l : Launch) (dD : va_G) (cI cA : ClassId) (p1 : Int32) (p2 : Int32) (p3 : Int32) (rv : Int32) (hsp : s_X6_within p1 p2 p3 = some rv) : zMi l yX6_within wsX6_within rm_X6_within dD cI cA [.int p1, .int p2, .int p3] ([]) ([]) rv := by
  refine zMi_of (cc := cX6_within) (maxL := 3) (by decide) rfl (Nat.le_of_ble_eq_true rfl) ?_
  intro p e s m args below meth c A Q ls hx hb hml hown hts hK hA hP hD hl hret
  have hown : s.vm.findClass RX6 = some m.cls := hown
  have hS : va_S A s.heap s.heap [] := va_S.rf
  have hl : lv_has ls 3 [(0, .int p1), (1, .int p2), (2, .int p3)] := hl
  unfold s_X6_within at hsp
  refine lv_iload_n hx hb dX6_within_0 rfl (lv_at hl 0 rfl) ?_
  refine lv_iload_n hx hb dX6_within_1 rfl (lv_at hl 1 rfl) ?_
  refine lv_icmp_lt (tgt := 14) hx hb dX6_within_2 (by decide) (fun c1 => ?_) (fun c1 => ?_)
  · have hsp := z_t c1 hsp
    refine lv_iconst (v := 0) hx hb dX6_within_14 (by decide) ?_
    obtain rfl := Option.some.inj hsp
    exact hret _ _ ls 15 dX6_within_15 rfl hP hD hS
  · have hsp := z_f c1 hsp
    refine lv_iload_n hx hb dX6_within_5 rfl (lv_at hl 0 rfl) ?_
    refine lv_iload_n hx hb dX6_within_6 rfl (lv_at hl 2 rfl) ?_
    refine lv_icmp_gt (tgt := 14) hx hb dX6_within_7 (by decide) (fun c2 => ?_) (fun c2 => ?_)
    · have hsp := z_t c2 hsp
      refine lv_iconst (v := 0) hx hb dX6_within_14 (by decide) ?_
      obtain rfl := Option.some.inj hsp
      exact hret _ _ ls 15 dX6_within_15 rfl hP hD hS
    · have hsp := z_f c2 hsp
      refine lv_iconst (v := 1) hx hb dX6_within_10 (by decide) ?_
      refine lv_goto (tgt := 15) hx hb dX6_within_11 (by decide) ?_
      obtain rfl := Option.some.inj hsp
      exact hret _ _ ls 15 dX6_within_15 rfl hP hD hS
def s_X6_machineAt (g : zF) (fA : Nat → Option Nat) (p1 : Int32) : Option (Option Nat) := (if p1 < 0 then some none else (if (g 5) ≤ p1 then some none else (if p1 < 12 then if p1 < 0 ∨ 12 ≤ (p1).toNatClampNeg then none else some (fA (p1).toNatClampNeg) else some none)))
abbrev rm_X6_machineAt : Room := { frames := 0, cells := 0, slots := 0, locals := 0 }
set_option maxHeartbeats 4000000 in
set_option maxRecDepth 100000 in
theorem c_X6_machineAt (l : Launch) (dD : va_G) (cI cA : ClassId) (q : Nat → Nat) (g : zF) (fA : Nat → Option Nat) (p1 : Int32) (rv : Option Nat) (hsp : s_X6_machineAt g fA p1 = some rv) : zMq l yX6_machineAt wsX6_machineAt rm_X6_machineAt dD cI cA [.ref (q 0), .int p1] ([zX q g, zP cA (q 3) fA]) ([zX q g, zP cA (q 3) fA]) rv := by
  refine zMq_of (cc := cX6_machineAt) (maxL := 2) (by decide) rfl (Nat.le_of_ble_eq_true rfl) ?_
  intro p e s m args below meth c A Q ls hx hb hml hown hts hK hA hP hD hl hret
  have hown : s.vm.findClass RX6 = some m.cls := hown
  have iX6 : ∀ w ∈ wsX60, w ∈ wsX6_machineAt := by decide +kernel
  have f53 := hts (.fieldLink RX6 53 "MeshField" "machineCount" "I") (by decide +kernel)
  have f25 := hts (.fieldLink RX6 25 "MeshField" "machines" "[LMeshField$Machine;") (by decide +kernel)
  have hS : va_S A s.heap s.heap [] := va_S.rf
  have hl : lv_has ls 2 [(0, .ref (q 0)), (1, .int p1)] := hl
  unfold s_X6_machineAt at hsp
  refine lv_iload_n hx hb dX6_machineAt_0 rfl (lv_at hl 1 rfl) ?_
  refine lv_if_lt (tgt := 21) hx hb dX6_machineAt_1 (by decide) (fun c1 => ?_) (fun c1 => ?_)
  · have hsp := z_t c1 hsp
    refine lv_null hx hb dX6_machineAt_21 ?_
    obtain rfl := Option.some.inj hsp
    exact hret _ _ ls 22 dX6_machineAt_22 hP hD hS
  · have hsp := z_f c1 hsp
    refine lv_iload_n hx hb dX6_machineAt_4 rfl (lv_at hl 1 rfl) ?_
    refine lv_aload_n hx hb dX6_machineAt_5 rfl (lv_at hl 0 rfl) ?_
    refine va_get (D := dD) (ci := 6) (v := .int (g 5)) (C := RX6) (T := TX6) (N := 10) hx hb hts iX6 hown hK.1 hP 0 rfl rfl 5 (by decide) f53 (fun _ h9 => h9) rfl dX6_machineAt_6 ?_
    refine lv_icmp_ge (tgt := 21) hx hb dX6_machineAt_9 (by decide) (fun c2 => ?_) (fun c2 => ?_)
    · have hsp := z_t c2 hsp
      refine lv_null hx hb dX6_machineAt_21 ?_
      obtain rfl := Option.some.inj hsp
      exact hret _ _ ls 22 dX6_machineAt_22 hP hD hS
    · have hsp := z_f c2 hsp
      refine lv_iload_n hx hb dX6_machineAt_12 rfl (lv_at hl 1 rfl) ?_
      refine lv_aload_n hx hb dX6_machineAt_13 rfl (lv_at hl 0 rfl) ?_
      refine va_get (D := dD) (ci := 6) (v := .ref (q 3)) (C := RX6) (T := TX6) (N := 10) hx hb hts iX6 hown hK.1 hP 0 rfl rfl 2 (by decide) f25 (fun _ h9 => h9) rfl dX6_machineAt_14 ?_
      refine va_alen (v := 12) hx hb hK.1 hP 1 1 rfl rfl rfl dX6_machineAt_17 ?_
      refine lv_icmp_lt (tgt := 23) hx hb dX6_machineAt_18 (by decide) (fun c3 => ?_) (fun c3 => ?_)
      · have hsp := z_t c3 hsp
        refine lv_aload_n hx hb dX6_machineAt_23 rfl (lv_at hl 0 rfl) ?_
        refine va_get (D := dD) (ci := 6) (v := .ref (q 3)) (C := RX6) (T := TX6) (N := 10) hx hb hts iX6 hown hK.1 hP 0 rfl rfl 2 (by decide) f25 (fun _ h9 => h9) rfl dX6_machineAt_24 ?_
        refine lv_iload_n hx hb dX6_machineAt_27 rfl (lv_at hl 1 rfl) ?_
        obtain ⟨h4, hsp⟩ := z_in hsp
        refine va_aldq hx hb hK.1 hP 1 1 rfl rfl h4 dX6_machineAt_28 ?_
        obtain rfl := Option.some.inj hsp
        exact hret _ _ ls 29 dX6_machineAt_29 hP hD hS
      · have hsp := z_f c3 hsp
        refine lv_null hx hb dX6_machineAt_21 ?_
        obtain rfl := Option.some.inj hsp
        exact hret _ _ ls 22 dX6_machineAt_22 hP hD hS
def s_X6_pairOf (g : zF) (fO : zF) (p1 : Int32) (p2 : Int32) : Option Int32 := zl (((p1 * 12) + p2)) fun (x1 : Int32) => zb1 (s_X6_within (x1) (0) ((144 - 1))) fun (v2 : Int32) => (if v2 = 0 then some ((-1)) else some (x1))
abbrev rm_X6_pairOf : Room := { frames := 1, cells := 0, slots := 0, locals := 22 }
set_option maxHeartbeats 4000000 in
set_option maxRecDepth 100000 in
theorem c_X6_pairOf (l : Launch) (dD : va_G) (cI cA : ClassId) (q : Nat → Nat) (g : zF) (fO : zF) (p1 : Int32) (p2 : Int32) (rv : Int32) (hsp : s_X6_pairOf g fO p1 p2 = some rv) : zMi l yX6_pairOf wsX6_pairOf rm_X6_pairOf dD cI cA [.ref (q 0), .int p1, .int p2] ([zX q g, zA cI (q 4) 144 fO]) ([zX q g, zA cI (q 4) 144 fO]) rv := by
  refine zMi_of (cc := cX6_pairOf) (maxL := 4) (by decide) rfl (Nat.le_of_ble_eq_true rfl) ?_
  intro p e s m args below meth c A Q ls hx hb hml hown hts hK hA hP hD hl hret
  have hown : s.vm.findClass RX6 = some m.cls := hown
  have iX6 : ∀ w ∈ wsX60, w ∈ wsX6_pairOf := by decide +kernel
  have f29 := hts (.fieldLink RX6 29 "MeshField" "lossOdds" "[I") (by decide +kernel)
  have hS : va_S A s.heap s.heap [] := va_S.rf
  have hl : lv_has ls 4 [(0, .ref (q 0)), (1, .int p1), (2, .int p2)] := hl
  unfold s_X6_pairOf at hsp
  refine lv_iload_n hx hb dX6_pairOf_0 rfl (lv_at hl 1 rfl) ?_
  refine lv_bipush (v := 12) hx hb dX6_pairOf_1 (by decide) ?_
  refine lv_imul hx hb dX6_pairOf_3 ?_
  refine lv_iload_n hx hb dX6_pairOf_4 rfl (lv_at hl 2 rfl) ?_
  refine lv_iadd hx hb dX6_pairOf_5 ?_
  obtain ⟨x1, ex1, hsp⟩ := z_lt hsp
  refine z_top ex1 ?_
  refine lv_istore_n (lv' := [(3, .int x1), (0, .ref (q 0)), (1, .int p1), (2, .int p2)]) hx hb dX6_pairOf_6 rfl hl (by decide) rfl (fun ls hl => ?_)
  refine lv_iload_n hx hb dX6_pairOf_7 rfl (lv_at hl 0 rfl) ?_
  refine lv_iconst (v := 0) hx hb dX6_pairOf_8 (by decide) ?_
  refine lv_aload_n hx hb dX6_pairOf_9 rfl (lv_at hl 1 rfl) ?_
  refine va_get (D := dD) (ci := 6) (v := .ref (q 4)) (C := RX6) (T := TX6) (N := 10) hx hb hts iX6 hown hK.1 hP 0 rfl rfl 3 (by decide) f29 (fun _ h9 => h9) rfl dX6_pairOf_10 ?_
  refine va_alen (v := 144) hx hb hK.1 hP 1 0 rfl rfl rfl dX6_pairOf_13 ?_
  refine lv_iconst (v := 1) hx hb dX6_pairOf_14 (by decide) ?_
  refine lv_isub hx hb dX6_pairOf_15 ?_
  obtain ⟨v2, hc3, hsp⟩ := z_b1 hsp
  refine z_callSi ⟨hx, hb, hml, hown, hts⟩ hK (c_X6_within l dD cI cA (x1) (0) ((144 - 1)) v2 hc3) (va_cwS 3 hts gX6_pairOf_X6_within rfl rfl rfl (by decide +kernel) ⟨Nat.le_of_ble_eq_true rfl, Nat.le_of_ble_eq_true rfl⟩) (zJ.of (wc := []) (wc1 := []) (wr := [zX q g, zA cI (q 4) 144 fO]) (w2 := [zX q g, zA cI (q 4) 144 fO]) hP hD hS hA [] [0, 1] [0, 1] rfl rfl rfl rfl rfl rfl rfl) hS rfl hl.1 rfl (Nat.le_of_ble_eq_true rfl) dX6_pairOf_16 ⟨Nat.zero_le _, Nat.zero_le _⟩ (fun H locs hP hD hS => ?_)
  refine lv_if_eq (tgt := 26) hx hb dX6_pairOf_19 (by decide) (fun c4 => ?_) (fun c4 => ?_)
  · have hsp := z_t c4 hsp
    refine lv_iconst (v := (-1)) hx hb dX6_pairOf_26 (by decide) ?_
    obtain rfl := Option.some.inj hsp
    exact hret _ _ ls 27 dX6_pairOf_27 rfl hP hD hS
  · have hsp := z_f c4 hsp
    refine lv_iload_n hx hb dX6_pairOf_22 rfl (lv_at hl 0 rfl) ?_
    refine lv_goto (tgt := 27) hx hb dX6_pairOf_23 (by decide) ?_
    obtain rfl := Option.some.inj hsp
    exact hret _ _ ls 27 dX6_pairOf_27 rfl hP hD hS
def s_X6_oddsBetween (g : zF) (fO : zF) (p1 : Int32) (p2 : Int32) : Option Int32 := zb1 (s_X6_pairOf g fO (p1) (p2)) fun (v1 : Int32) => (if v1 = (-1) then some ((-1)) else if v1 < 0 ∨ 144 ≤ (v1).toNatClampNeg then none else some ((fO (v1).toNatClampNeg)))
abbrev rm_X6_oddsBetween : Room := { frames := 2, cells := 0, slots := 0, locals := 45 }
set_option maxHeartbeats 4000000 in
set_option maxRecDepth 100000 in
theorem c_X6_oddsBetween (l : Launch) (dD : va_G) (cI cA : ClassId) (q : Nat → Nat) (g : zF) (fO : zF) (p1 : Int32) (p2 : Int32) (rv : Int32) (hsp : s_X6_oddsBetween g fO p1 p2 = some rv) : zMi l yX6_oddsBetween wsX6_oddsBetween rm_X6_oddsBetween dD cI cA [.ref (q 0), .int p1, .int p2] ([zX q g, zA cI (q 4) 144 fO]) ([zX q g, zA cI (q 4) 144 fO]) rv := by
  refine zMi_of (cc := cX6_oddsBetween) (maxL := 4) (by decide) rfl (Nat.le_of_ble_eq_true rfl) ?_
  intro p e s m args below meth c A Q ls hx hb hml hown hts hK hA hP hD hl hret
  have hown : s.vm.findClass RX6 = some m.cls := hown
  have iX6 : ∀ w ∈ wsX60, w ∈ wsX6_oddsBetween := by decide +kernel
  have f29 := hts (.fieldLink RX6 29 "MeshField" "lossOdds" "[I") (by decide +kernel)
  have hS : va_S A s.heap s.heap [] := va_S.rf
  have hl : lv_has ls 4 [(0, .ref (q 0)), (1, .int p1), (2, .int p2)] := hl
  unfold s_X6_oddsBetween at hsp
  refine lv_aload_n hx hb dX6_oddsBetween_0 rfl (lv_at hl 0 rfl) ?_
  refine lv_iload_n hx hb dX6_oddsBetween_1 rfl (lv_at hl 1 rfl) ?_
  refine lv_iload_n hx hb dX6_oddsBetween_2 rfl (lv_at hl 2 rfl) ?_
  obtain ⟨v1, hc2, hsp⟩ := z_b1 hsp
  refine z_callVi ⟨hx, hb, hml, hown, hts⟩ hK (c_X6_pairOf l dD cI cA q g fO (p1) (p2) v1 hc2) (cwV 2 hts gX6_oddsBetween_X6_pairOf rfl rfl rfl (by decide +kernel) ⟨Nat.le_of_ble_eq_true rfl, Nat.le_of_ble_eq_true rfl⟩) (zJ.of (wc := [zX q g, zA cI (q 4) 144 fO]) (wc1 := [zX q g, zA cI (q 4) 144 fO]) (wr := []) (w2 := [zX q g, zA cI (q 4) 144 fO]) hP hD hS hA [0, 1] [] [0, 1] rfl rfl rfl rfl rfl rfl rfl) hS 0 6 rfl rfl rfl rfl hl.1 rfl (Nat.le_of_ble_eq_true rfl) dX6_oddsBetween_3 ⟨Nat.zero_le _, Nat.zero_le _⟩ (fun H locs hP hD hS => ?_)
  refine lv_istore_n (lv' := [(3, .int v1), (0, .ref (q 0)), (1, .int p1), (2, .int p2)]) hx hb dX6_oddsBetween_6 rfl hl (by decide) rfl (fun ls hl => ?_)
  refine lv_iload_n hx hb dX6_oddsBetween_7 rfl (lv_at hl 0 rfl) ?_
  refine lv_iconst (v := (-1)) hx hb dX6_oddsBetween_8 (by decide) ?_
  refine lv_icmp_ne (tgt := 16) hx hb dX6_oddsBetween_9 (by decide) (fun c3 => ?_) (fun c3 => ?_)
  · have hsp := z_f c3 hsp
    refine lv_aload_n hx hb dX6_oddsBetween_16 rfl (lv_at hl 1 rfl) ?_
    refine va_get (D := dD) (ci := 6) (v := .ref (q 4)) (C := RX6) (T := TX6) (N := 10) hx hb hts iX6 hown hK.1 hP 0 rfl rfl 3 (by decide) f29 (fun _ h9 => h9) rfl dX6_oddsBetween_17 ?_
    refine lv_iload_n hx hb dX6_oddsBetween_20 rfl (lv_at hl 0 rfl) ?_
    obtain ⟨h4, hsp⟩ := z_in hsp
    refine va_iald hx hb hK.1 hP 1 0 rfl rfl h4 dX6_oddsBetween_21 ?_
    obtain rfl := Option.some.inj hsp
    exact hret _ _ ls 22 dX6_oddsBetween_22 rfl hP hD hS
  · have hsp := z_t c3 hsp
    refine lv_iconst (v := (-1)) hx hb dX6_oddsBetween_12 (by decide) ?_
    refine lv_goto (tgt := 22) hx hb dX6_oddsBetween_13 (by decide) ?_
    obtain rfl := Option.some.inj hsp
    exact hret _ _ ls 22 dX6_oddsBetween_22 rfl hP hD hS
def s_X6_seed (g : zF) (gD : zF) (p1 : Int32) : Option (zF) := zl (va_up gD 0 (p1)) fun (gD1 : zF) => some (gD1)
abbrev rm_X6_seed : Room := { frames := 0, cells := 0, slots := 0, locals := 0 }
set_option maxHeartbeats 4000000 in
set_option maxRecDepth 100000 in
theorem c_X6_seed (l : Launch) (dD : va_G) (cI cA : ClassId) (q : Nat → Nat) (g : zF) (gD : zF) (p1 : Int32) (r_gD : zF) (hsp : s_X6_seed g gD p1 = some (r_gD)) : zMv l yX6_seed wsX6_seed rm_X6_seed dD cI cA [.ref (q 0), .int p1] ([zX q g, zD (q 1) gD]) ([zX q g, zD (q 1) r_gD]) := by
  refine zMv_of (cc := cX6_seed) (maxL := 2) (by decide) rfl (Nat.le_of_ble_eq_true rfl) ?_
  intro p e s m args below meth c A Q ls hx hb hml hown hts hK hA hP hD hl hret
  have hown : s.vm.findClass RX6 = some m.cls := hown
  have iX6 : ∀ w ∈ wsX60, w ∈ wsX6_seed := by decide +kernel
  have iX1 : ∀ w ∈ wsX10, w ∈ wsX6_seed := by decide +kernel
  have f10 := hts (.fieldLink RX6 10 "MeshField" "draws" "LMeshField$Draws;") (by decide +kernel)
  have f46 : (Cond.fieldLinkNest RX6 46 "MeshField$Draws" "state" "I" "MeshField").before args s = true := hK.nw (by decide +kernel)
  have hS : va_S A s.heap s.heap [] := va_S.rf
  have hl : lv_has ls 2 [(0, .ref (q 0)), (1, .int p1)] := hl
  unfold s_X6_seed at hsp
  refine lv_aload_n hx hb dX6_seed_0 rfl (lv_at hl 0 rfl) ?_
  refine va_get (D := dD) (ci := 6) (v := .ref (q 1)) (C := RX6) (T := TX6) (N := 10) hx hb hts iX6 hown hK.1 hP 0 rfl rfl 0 (by decide) f10 (fun _ h9 => h9) rfl dX6_seed_1 ?_
  refine lv_iload_n hx hb dX6_seed_4 rfl (lv_at hl 1 rfl) ?_
  refine va_putN (D := dD) (ci := 1) (v := .int p1) (ty := .int) (C := RX1) (T := TX1) (N := 1) hx hb hts iX1 tyX1 tyX1_ok nmX1 hown hK.1 hP hD hS 1 rfl rfl 0 (by decide) f46 (fun _ h9 => h9) rfl (by decide +kernel) rfl rfl (Nat.le_of_ble_eq_true rfl) dX6_seed_5 (fun H locs hP hD hS => ?_)
  obtain ⟨gD1, egD1, hsp⟩ := z_lt hsp
  have hP : va_P dD vwCl ([zX q g, zD (q 1) gD1]) H := by rw [egD1]; exact hP
  have hD : va_D A ([zX q g, zD (q 1) gD1]) := by rw [egD1]; exact hD
  obtain rfl := Option.some.inj hsp
  exact hret _ _ ls 8 dX6_seed_8 hP hD hS
def s_X6_rules_b47 (g : zF) (gR_ : zF) (lo1 : Int32) (lo2 : Int32) (lo3 : Int32) (lo4 : Int32) (t0 : Int32) : Option (Int32 × (zF)) := (if t0 = 0 then some (0, gR_) else (if (g 5) ≤ 0 then zl (va_up gR_ 0 (lo1)) fun (gR6 : zF) => zl (va_up gR6 1 (lo2)) fun (gR7 : zF) => zl (va_up gR7 2 (lo3)) fun (gR8 : zF) => zl (va_up gR8 3 (lo4)) fun (gR9 : zF) => some (1, gR9) else some (0, gR_)))
def s_X6_rules_b46 (g : zF) (gR_ : zF) (lo1 : Int32) (lo2 : Int32) (lo3 : Int32) (lo4 : Int32) : Option (Int32 × (zF)) := (s_X6_rules_b47 g gR_ (lo1) (lo2) (lo3) (lo4) (0))
def s_X6_rules (g : zF) (gR : zF) (p1 : Int32) (p2 : Int32) (p3 : Int32) (p4 : Int32) : Option (Int32 × (zF)) := zb1 (s_X6_within (p1) (1) (9)) fun (v1 : Int32) => (if v1 = 0 then (s_X6_rules_b46 g gR (p1) (p2) (p3) (p4)) else zb1 (s_X6_within (p2) (2) (64)) fun (v10 : Int32) => (if v10 = 0 then (s_X6_rules_b46 g gR (p1) (p2) (p3) (p4)) else zb1 (s_X6_within (p3) (p2) (1024)) fun (v13 : Int32) => (if v13 = 0 then (s_X6_rules_b46 g gR (p1) (p2) (p3) (p4)) else zb1 (s_X6_within (p4) (1) (32)) fun (v16 : Int32) => (if v16 = 0 then (s_X6_rules_b46 g gR (p1) (p2) (p3) (p4)) else (s_X6_rules_b47 g gR (p1) (p2) (p3) (p4) (1))))))
abbrev rm_X6_rules : Room := { frames := 1, cells := 0, slots := 0, locals := 22 }
set_option maxHeartbeats 4000000 in
set_option maxRecDepth 100000 in
theorem c_X6_rules (l : Launch) (dD : va_G) (cI cA : ClassId) (q : Nat → Nat) (g : zF) (gR : zF) (p1 : Int32) (p2 : Int32) (p3 : Int32) (p4 : Int32) (rv : Int32) (r_gR : zF) (hsp : s_X6_rules g gR p1 p2 p3 p4 = some (rv, r_gR)) : zMi l yX6_rules wsX6_rules rm_X6_rules dD cI cA [.ref (q 0), .int p1, .int p2, .int p3, .int p4] ([zX q g, zR (q 2) gR]) ([zX q g, zR (q 2) r_gR]) rv := by
  refine zMi_of (cc := cX6_rules) (maxL := 6) (by decide) rfl (Nat.le_of_ble_eq_true rfl) ?_
  intro p e s m args below meth c A Q ls hx hb hml hown hts hK hA hP hD hl hret
  have hown : s.vm.findClass RX6 = some m.cls := hown
  have iX6 : ∀ w ∈ wsX60, w ∈ wsX6_rules := by decide +kernel
  have iX5 : ∀ w ∈ wsX50, w ∈ wsX6_rules := by decide +kernel
  have f53 := hts (.fieldLink RX6 53 "MeshField" "machineCount" "I") (by decide +kernel)
  have f19 := hts (.fieldLink RX6 19 "MeshField" "fieldRules" "LMeshField$Rules;") (by decide +kernel)
  have f56 : (Cond.fieldLinkNest RX6 56 "MeshField$Rules" "few" "I" "MeshField").before args s = true := hK.nw (by decide +kernel)
  have f59 : (Cond.fieldLinkNest RX6 59 "MeshField$Rules" "low" "I" "MeshField").before args s = true := hK.nw (by decide +kernel)
  have f62 : (Cond.fieldLinkNest RX6 62 "MeshField$Rules" "high" "I" "MeshField").before args s = true := hK.nw (by decide +kernel)
  have f65 : (Cond.fieldLinkNest RX6 65 "MeshField$Rules" "wait" "I" "MeshField").before args s = true := hK.nw (by decide +kernel)
  have hS : va_S A s.heap s.heap [] := va_S.rf
  have hl : lv_has ls 6 [(0, .ref (q 0)), (1, .int p1), (2, .int p2), (3, .int p3), (4, .int p4)] := hl
  have K_47 : ∀ (H : Heap) (locs : List Loc) (ls : Array Slot) (gR_ : zF) (lo1 : Int32) (lo2 : Int32) (lo3 : Int32) (lo4 : Int32) (t0 : Int32), va_P dD vwCl ([zX q g, zR (q 2) gR_]) H → va_D A ([zX q g, zR (q 2) gR_]) → va_S A s.heap H locs → lv_has ls 6 [(0, .ref (q 0)), (1, .int lo1), (2, .int lo2), (3, .int lo3), (4, .int lo4)] → s_X6_rules_b47 g gR_ lo1 lo2 lo3 lo4 t0 = some (rv, r_gR) → W p l e rm_X6_rules s m args below meth c H locs 0 0 Q (F0 m 47 ls [.int t0]) := by
    intro H locs ls gR_ lo1 lo2 lo3 lo4 t0 hP hD hS hl hsp
    unfold s_X6_rules_b47 at hsp
    refine lv_istore (lv' := [(5, .int t0), (0, .ref (q 0)), (1, .int lo1), (2, .int lo2), (3, .int lo3), (4, .int lo4)]) hx hb dX6_rules_47 hl (by decide) rfl (fun ls hl => ?_)
    refine lv_iload hx hb dX6_rules_49 (lv_at hl 0 rfl) ?_
    refine lv_if_eq (tgt := 61) hx hb dX6_rules_51 (by decide) (fun c4 => ?_) (fun c4 => ?_)
    · have hsp := z_t c4 hsp
      refine lv_iconst (v := 0) hx hb dX6_rules_61 (by decide) ?_
      obtain ⟨rfl, rfl⟩ := z_i2 hsp
      exact hret _ _ ls 62 dX6_rules_62 rfl hP hD hS
    · have hsp := z_f c4 hsp
      refine lv_aload_n hx hb dX6_rules_54 rfl (lv_at hl 1 rfl) ?_
      refine va_get (D := dD) (ci := 6) (v := .int (g 5)) (C := RX6) (T := TX6) (N := 10) hx hb hts iX6 hown hK.1 hP 0 rfl rfl 5 (by decide) f53 (fun _ h9 => h9) rfl dX6_rules_55 ?_
      refine lv_if_le (tgt := 63) hx hb dX6_rules_58 (by decide) (fun c5 => ?_) (fun c5 => ?_)
      · have hsp := z_t c5 hsp
        refine lv_aload_n hx hb dX6_rules_63 rfl (lv_at hl 1 rfl) ?_
        refine va_get (D := dD) (ci := 6) (v := .ref (q 2)) (C := RX6) (T := TX6) (N := 10) hx hb hts iX6 hown hK.1 hP 0 rfl rfl 1 (by decide) f19 (fun _ h9 => h9) rfl dX6_rules_64 ?_
        refine lv_iload_n hx hb dX6_rules_67 rfl (lv_at hl 2 rfl) ?_
        refine va_putN (D := dD) (ci := 5) (v := .int lo1) (ty := .int) (C := RX5) (T := TX5) (N := 4) hx hb hts iX5 tyX5 tyX5_ok nmX5 hown hK.1 hP hD hS 1 rfl rfl 0 (by decide) f56 (fun _ h9 => h9) rfl (by decide +kernel) rfl rfl (Nat.le_of_ble_eq_true rfl) dX6_rules_68 (fun H locs hP hD hS => ?_)
        obtain ⟨gR6, egR6, hsp⟩ := z_lt hsp
        have hP : va_P dD vwCl ([zX q g, zR (q 2) gR6]) H := by rw [egR6]; exact hP
        have hD : va_D A ([zX q g, zR (q 2) gR6]) := by rw [egR6]; exact hD
        refine lv_aload_n hx hb dX6_rules_71 rfl (lv_at hl 1 rfl) ?_
        refine va_get (D := dD) (ci := 6) (v := .ref (q 2)) (C := RX6) (T := TX6) (N := 10) hx hb hts iX6 hown hK.1 hP 0 rfl rfl 1 (by decide) f19 (fun _ h9 => h9) rfl dX6_rules_72 ?_
        refine lv_iload_n hx hb dX6_rules_75 rfl (lv_at hl 3 rfl) ?_
        refine va_putN (D := dD) (ci := 5) (v := .int lo2) (ty := .int) (C := RX5) (T := TX5) (N := 4) hx hb hts iX5 tyX5 tyX5_ok nmX5 hown hK.1 hP hD hS 1 rfl rfl 1 (by decide) f59 (fun _ h9 => h9) rfl (by decide +kernel) rfl rfl (Nat.le_of_ble_eq_true rfl) dX6_rules_76 (fun H locs hP hD hS => ?_)
        obtain ⟨gR7, egR7, hsp⟩ := z_lt hsp
        have hP : va_P dD vwCl ([zX q g, zR (q 2) gR7]) H := by rw [egR7]; exact hP
        have hD : va_D A ([zX q g, zR (q 2) gR7]) := by rw [egR7]; exact hD
        refine lv_aload_n hx hb dX6_rules_79 rfl (lv_at hl 1 rfl) ?_
        refine va_get (D := dD) (ci := 6) (v := .ref (q 2)) (C := RX6) (T := TX6) (N := 10) hx hb hts iX6 hown hK.1 hP 0 rfl rfl 1 (by decide) f19 (fun _ h9 => h9) rfl dX6_rules_80 ?_
        refine lv_iload_n hx hb dX6_rules_83 rfl (lv_at hl 4 rfl) ?_
        refine va_putN (D := dD) (ci := 5) (v := .int lo3) (ty := .int) (C := RX5) (T := TX5) (N := 4) hx hb hts iX5 tyX5 tyX5_ok nmX5 hown hK.1 hP hD hS 1 rfl rfl 2 (by decide) f62 (fun _ h9 => h9) rfl (by decide +kernel) rfl rfl (Nat.le_of_ble_eq_true rfl) dX6_rules_84 (fun H locs hP hD hS => ?_)
        obtain ⟨gR8, egR8, hsp⟩ := z_lt hsp
        have hP : va_P dD vwCl ([zX q g, zR (q 2) gR8]) H := by rw [egR8]; exact hP
        have hD : va_D A ([zX q g, zR (q 2) gR8]) := by rw [egR8]; exact hD
        refine lv_aload_n hx hb dX6_rules_87 rfl (lv_at hl 1 rfl) ?_
        refine va_get (D := dD) (ci := 6) (v := .ref (q 2)) (C := RX6) (T := TX6) (N := 10) hx hb hts iX6 hown hK.1 hP 0 rfl rfl 1 (by decide) f19 (fun _ h9 => h9) rfl dX6_rules_88 ?_
        refine lv_iload hx hb dX6_rules_91 (lv_at hl 5 rfl) ?_
        refine va_putN (D := dD) (ci := 5) (v := .int lo4) (ty := .int) (C := RX5) (T := TX5) (N := 4) hx hb hts iX5 tyX5 tyX5_ok nmX5 hown hK.1 hP hD hS 1 rfl rfl 3 (by decide) f65 (fun _ h9 => h9) rfl (by decide +kernel) rfl rfl (Nat.le_of_ble_eq_true rfl) dX6_rules_93 (fun H locs hP hD hS => ?_)
        obtain ⟨gR9, egR9, hsp⟩ := z_lt hsp
        have hP : va_P dD vwCl ([zX q g, zR (q 2) gR9]) H := by rw [egR9]; exact hP
        have hD : va_D A ([zX q g, zR (q 2) gR9]) := by rw [egR9]; exact hD
        refine lv_iconst (v := 1) hx hb dX6_rules_96 (by decide) ?_
        obtain ⟨rfl, rfl⟩ := z_i2 hsp
        exact hret _ _ ls 97 dX6_rules_97 rfl hP hD hS
      · have hsp := z_f c5 hsp
        refine lv_iconst (v := 0) hx hb dX6_rules_61 (by decide) ?_
        obtain ⟨rfl, rfl⟩ := z_i2 hsp
        exact hret _ _ ls 62 dX6_rules_62 rfl hP hD hS
  have K_46 : ∀ (H : Heap) (locs : List Loc) (ls : Array Slot) (gR_ : zF) (lo1 : Int32) (lo2 : Int32) (lo3 : Int32) (lo4 : Int32), va_P dD vwCl ([zX q g, zR (q 2) gR_]) H → va_D A ([zX q g, zR (q 2) gR_]) → va_S A s.heap H locs → lv_has ls 6 [(0, .ref (q 0)), (1, .int lo1), (2, .int lo2), (3, .int lo3), (4, .int lo4)] → s_X6_rules_b46 g gR_ lo1 lo2 lo3 lo4 = some (rv, r_gR) → W p l e rm_X6_rules s m args below meth c H locs 0 0 Q (F0 m 46 ls []) := by
    intro H locs ls gR_ lo1 lo2 lo3 lo4 hP hD hS hl hsp
    unfold s_X6_rules_b46 at hsp
    refine lv_iconst (v := 0) hx hb dX6_rules_46 (by decide) ?_
    exact K_47 _ _ ls gR_ (lo1) (lo2) (lo3) (lo4) (0) hP hD hS (lv_sub hl [0, 1, 2, 3, 4] rfl) hsp
  unfold s_X6_rules at hsp
  refine lv_iload_n hx hb dX6_rules_0 rfl (lv_at hl 1 rfl) ?_
  refine lv_iconst (v := 1) hx hb dX6_rules_1 (by decide) ?_
  refine lv_bipush (v := 9) hx hb dX6_rules_2 (by decide) ?_
  obtain ⟨v1, hc2, hsp⟩ := z_b1 hsp
  refine z_callSi ⟨hx, hb, hml, hown, hts⟩ hK (c_X6_within l dD cI cA (p1) (1) (9) v1 hc2) (va_cwS 3 hts gX6_rules_X6_within rfl rfl rfl (by decide +kernel) ⟨Nat.le_of_ble_eq_true rfl, Nat.le_of_ble_eq_true rfl⟩) (zJ.of (wc := []) (wc1 := []) (wr := [zX q g, zR (q 2) gR]) (w2 := [zX q g, zR (q 2) gR]) hP hD hS hA [] [0, 1] [0, 1] rfl rfl rfl rfl rfl rfl rfl) hS rfl hl.1 rfl (Nat.le_of_ble_eq_true rfl) dX6_rules_4 ⟨Nat.zero_le _, Nat.zero_le _⟩ (fun H locs hP hD hS => ?_)
  refine lv_if_eq (tgt := 46) hx hb dX6_rules_7 (by decide) (fun c3 => ?_) (fun c3 => ?_)
  · have hsp := z_t c3 hsp
    exact K_46 _ _ ls gR (p1) (p2) (p3) (p4) hP hD hS (lv_sub hl [0, 1, 2, 3, 4] rfl) hsp
  · have hsp := z_f c3 hsp
    refine lv_iload_n hx hb dX6_rules_10 rfl (lv_at hl 2 rfl) ?_
    refine lv_iconst (v := 2) hx hb dX6_rules_11 (by decide) ?_
    refine lv_bipush (v := 64) hx hb dX6_rules_12 (by decide) ?_
    obtain ⟨v10, hc11, hsp⟩ := z_b1 hsp
    refine z_callSi ⟨hx, hb, hml, hown, hts⟩ hK (c_X6_within l dD cI cA (p2) (2) (64) v10 hc11) (va_cwS 3 hts gX6_rules_X6_within rfl rfl rfl (by decide +kernel) ⟨Nat.le_of_ble_eq_true rfl, Nat.le_of_ble_eq_true rfl⟩) (zJ.of (wc := []) (wc1 := []) (wr := [zX q g, zR (q 2) gR]) (w2 := [zX q g, zR (q 2) gR]) hP hD hS hA [] [0, 1] [0, 1] rfl rfl rfl rfl rfl rfl rfl) hS rfl hl.1 rfl (Nat.le_of_ble_eq_true rfl) dX6_rules_14 ⟨Nat.zero_le _, Nat.zero_le _⟩ (fun H locs hP hD hS => ?_)
    refine lv_if_eq (tgt := 46) hx hb dX6_rules_17 (by decide) (fun c12 => ?_) (fun c12 => ?_)
    · have hsp := z_t c12 hsp
      exact K_46 _ _ ls gR (p1) (p2) (p3) (p4) hP hD hS (lv_sub hl [0, 1, 2, 3, 4] rfl) hsp
    · have hsp := z_f c12 hsp
      refine lv_iload_n hx hb dX6_rules_20 rfl (lv_at hl 3 rfl) ?_
      refine lv_iload_n hx hb dX6_rules_21 rfl (lv_at hl 2 rfl) ?_
      refine lv_sipush (v := 1024) hx hb dX6_rules_22 (by decide) ?_
      obtain ⟨v13, hc14, hsp⟩ := z_b1 hsp
      refine z_callSi ⟨hx, hb, hml, hown, hts⟩ hK (c_X6_within l dD cI cA (p3) (p2) (1024) v13 hc14) (va_cwS 3 hts gX6_rules_X6_within rfl rfl rfl (by decide +kernel) ⟨Nat.le_of_ble_eq_true rfl, Nat.le_of_ble_eq_true rfl⟩) (zJ.of (wc := []) (wc1 := []) (wr := [zX q g, zR (q 2) gR]) (w2 := [zX q g, zR (q 2) gR]) hP hD hS hA [] [0, 1] [0, 1] rfl rfl rfl rfl rfl rfl rfl) hS rfl hl.1 rfl (Nat.le_of_ble_eq_true rfl) dX6_rules_25 ⟨Nat.zero_le _, Nat.zero_le _⟩ (fun H locs hP hD hS => ?_)
      refine lv_if_eq (tgt := 46) hx hb dX6_rules_28 (by decide) (fun c15 => ?_) (fun c15 => ?_)
      · have hsp := z_t c15 hsp
        exact K_46 _ _ ls gR (p1) (p2) (p3) (p4) hP hD hS (lv_sub hl [0, 1, 2, 3, 4] rfl) hsp
      · have hsp := z_f c15 hsp
        refine lv_iload hx hb dX6_rules_31 (lv_at hl 4 rfl) ?_
        refine lv_iconst (v := 1) hx hb dX6_rules_33 (by decide) ?_
        refine lv_bipush (v := 32) hx hb dX6_rules_34 (by decide) ?_
        obtain ⟨v16, hc17, hsp⟩ := z_b1 hsp
        refine z_callSi ⟨hx, hb, hml, hown, hts⟩ hK (c_X6_within l dD cI cA (p4) (1) (32) v16 hc17) (va_cwS 3 hts gX6_rules_X6_within rfl rfl rfl (by decide +kernel) ⟨Nat.le_of_ble_eq_true rfl, Nat.le_of_ble_eq_true rfl⟩) (zJ.of (wc := []) (wc1 := []) (wr := [zX q g, zR (q 2) gR]) (w2 := [zX q g, zR (q 2) gR]) hP hD hS hA [] [0, 1] [0, 1] rfl rfl rfl rfl rfl rfl rfl) hS rfl hl.1 rfl (Nat.le_of_ble_eq_true rfl) dX6_rules_36 ⟨Nat.zero_le _, Nat.zero_le _⟩ (fun H locs hP hD hS => ?_)
        refine lv_if_eq (tgt := 46) hx hb dX6_rules_39 (by decide) (fun c18 => ?_) (fun c18 => ?_)
        · have hsp := z_t c18 hsp
          exact K_46 _ _ ls gR (p1) (p2) (p3) (p4) hP hD hS (lv_sub hl [0, 1, 2, 3, 4] rfl) hsp
        · have hsp := z_f c18 hsp
          refine lv_iconst (v := 1) hx hb dX6_rules_42 (by decide) ?_
          refine lv_goto (tgt := 47) hx hb dX6_rules_43 (by decide) ?_
          exact K_47 _ _ ls gR (p1) (p2) (p3) (p4) (1) hP hD hS (lv_sub hl [0, 1, 2, 3, 4] rfl) hsp
def s_X6_piece (g : zF) (to : zF) (p1 : Int32) : Option (Int32 × (zF) × (zF)) := (if (g 6) < 0 then some ((-1), g, to) else (if (g 6) < 12 then if (g 6) < 0 ∨ 12 ≤ ((g 6)).toNatClampNeg then none else zl (upd to ((g 6)).toNatClampNeg (p1)) fun (to4 : zF) => zl (va_up g 6 (((g 6) + 1))) fun (g5 : zF) => some ((g5 6), g5, to4) else some ((-1), g, to)))
abbrev rm_X6_piece : Room := { frames := 0, cells := 0, slots := 0, locals := 0 }
set_option maxHeartbeats 4000000 in
set_option maxRecDepth 100000 in
theorem c_X6_piece (l : Launch) (dD : va_G) (cI cA : ClassId) (q : Nat → Nat) (g : zF) (to : zF) (p1 : Int32) (rv : Int32) (r_g : zF) (r_to : zF) (hsp : s_X6_piece g to p1 = some (rv, r_g, r_to)) : zMi l yX6_piece wsX6_piece rm_X6_piece dD cI cA [.ref (q 0), .int p1] ([zX q g, zA cI (q 5) 12 to]) ([zX q r_g, zA cI (q 5) 12 r_to]) rv := by
  refine zMi_of (cc := cX6_piece) (maxL := 2) (by decide) rfl (Nat.le_of_ble_eq_true rfl) ?_
  intro p e s m args below meth c A Q ls hx hb hml hown hts hK hA hP hD hl hret
  have hown : s.vm.findClass RX6 = some m.cls := hown
  have iX6 : ∀ w ∈ wsX60, w ∈ wsX6_piece := by decide +kernel
  have f92 := hts (.fieldLink RX6 92 "MeshField" "toldCount" "I") (by decide +kernel)
  have f39 := hts (.fieldLink RX6 39 "MeshField" "toldPieces" "[I") (by decide +kernel)
  have hS : va_S A s.heap s.heap [] := va_S.rf
  have hl : lv_has ls 2 [(0, .ref (q 0)), (1, .int p1)] := hl
  unfold s_X6_piece at hsp
  refine lv_aload_n hx hb dX6_piece_0 rfl (lv_at hl 0 rfl) ?_
  refine va_get (D := dD) (ci := 6) (v := .int (g 6)) (C := RX6) (T := TX6) (N := 10) hx hb hts iX6 hown hK.1 hP 0 rfl rfl 6 (by decide) f92 (fun _ h9 => h9) rfl dX6_piece_1 ?_
  refine lv_if_lt (tgt := 19) hx hb dX6_piece_4 (by decide) (fun c1 => ?_) (fun c1 => ?_)
  · have hsp := z_t c1 hsp
    refine lv_iconst (v := (-1)) hx hb dX6_piece_19 (by decide) ?_
    obtain ⟨rfl, rfl, rfl⟩ := z_i3 hsp
    exact hret _ _ ls 20 dX6_piece_20 rfl hP hD hS
  · have hsp := z_f c1 hsp
    refine lv_aload_n hx hb dX6_piece_7 rfl (lv_at hl 0 rfl) ?_
    refine va_get (D := dD) (ci := 6) (v := .int (g 6)) (C := RX6) (T := TX6) (N := 10) hx hb hts iX6 hown hK.1 hP 0 rfl rfl 6 (by decide) f92 (fun _ h9 => h9) rfl dX6_piece_8 ?_
    refine lv_aload_n hx hb dX6_piece_11 rfl (lv_at hl 0 rfl) ?_
    refine va_get (D := dD) (ci := 6) (v := .ref (q 5)) (C := RX6) (T := TX6) (N := 10) hx hb hts iX6 hown hK.1 hP 0 rfl rfl 4 (by decide) f39 (fun _ h9 => h9) rfl dX6_piece_12 ?_
    refine va_alen (v := 12) hx hb hK.1 hP 1 0 rfl rfl rfl dX6_piece_15 ?_
    refine lv_icmp_lt (tgt := 21) hx hb dX6_piece_16 (by decide) (fun c2 => ?_) (fun c2 => ?_)
    · have hsp := z_t c2 hsp
      refine lv_aload_n hx hb dX6_piece_21 rfl (lv_at hl 0 rfl) ?_
      refine va_get (D := dD) (ci := 6) (v := .ref (q 5)) (C := RX6) (T := TX6) (N := 10) hx hb hts iX6 hown hK.1 hP 0 rfl rfl 4 (by decide) f39 (fun _ h9 => h9) rfl dX6_piece_22 ?_
      refine lv_aload_n hx hb dX6_piece_25 rfl (lv_at hl 0 rfl) ?_
      refine va_get (D := dD) (ci := 6) (v := .int (g 6)) (C := RX6) (T := TX6) (N := 10) hx hb hts iX6 hown hK.1 hP 0 rfl rfl 6 (by decide) f92 (fun _ h9 => h9) rfl dX6_piece_26 ?_
      refine lv_iload_n hx hb dX6_piece_29 rfl (lv_at hl 1 rfl) ?_
      obtain ⟨h3, hsp⟩ := z_in hsp
      refine va_iast hx hb hK.1 hP hD hS 1 0 rfl rfl h3 dX6_piece_30 (fun H locs hP hD hS => ?_)
      obtain ⟨to4, eto4, hsp⟩ := z_lt hsp
      have hP : va_P dD vwCl ([zX q g, zA cI (q 5) 12 to4]) H := by rw [eto4]; exact hP
      have hD : va_D A ([zX q g, zA cI (q 5) 12 to4]) := by rw [eto4]; exact hD
      refine lv_aload_n hx hb dX6_piece_31 rfl (lv_at hl 0 rfl) ?_
      refine lv_dup hx hb dX6_piece_32 rfl ?_
      refine va_get (D := dD) (ci := 6) (v := .int (g 6)) (C := RX6) (T := TX6) (N := 10) hx hb hts iX6 hown hK.1 hP 0 rfl rfl 6 (by decide) f92 (fun _ h9 => h9) rfl dX6_piece_33 ?_
      refine lv_iconst (v := 1) hx hb dX6_piece_36 (by decide) ?_
      refine lv_iadd hx hb dX6_piece_37 ?_
      refine va_put (D := dD) (ci := 6) (v := .int ((g 6) + 1)) (ty := .int) (C := RX6) (T := TX6) (N := 10) hx hb hts iX6 tyX6 tyX6_ok nmX6 hown hK.1 hP hD hS 0 rfl rfl 6 (by decide) f92 (fun _ h9 => h9) rfl (by decide +kernel) rfl rfl (Nat.le_of_ble_eq_true rfl) dX6_piece_38 (fun H locs hP hD hS => ?_)
      obtain ⟨g5, eg5, hsp⟩ := z_lt hsp
      have hP : va_P dD vwCl ([zX q g5, zA cI (q 5) 12 to4]) H := by rw [eg5]; exact hP
      have hD : va_D A ([zX q g5, zA cI (q 5) 12 to4]) := by rw [eg5]; exact hD
      refine lv_aload_n hx hb dX6_piece_41 rfl (lv_at hl 0 rfl) ?_
      refine va_get (D := dD) (ci := 6) (v := .int (g5 6)) (C := RX6) (T := TX6) (N := 10) hx hb hts iX6 hown hK.1 hP 0 rfl rfl 6 (by decide) f92 (fun _ h9 => h9) rfl dX6_piece_42 ?_
      obtain ⟨rfl, rfl, rfl⟩ := z_i3 hsp
      exact hret _ _ ls 45 dX6_piece_45 rfl hP hD hS
    · have hsp := z_f c2 hsp
      refine lv_iconst (v := (-1)) hx hb dX6_piece_19 (by decide) ?_
      obtain ⟨rfl, rfl, rfl⟩ := z_i3 hsp
      exact hret _ _ ls 20 dX6_piece_20 rfl hP hD hS

section ZTN
variable {p : Program} {l : Launch} {e : Env} {R : Room} {s : State} {m : MethodId} {args : Array Value} {below : List Frame} {meth : Method} {c : Code} {H : Heap} {locs : List Loc} {cells slots pc : Nat} {Q : State → Prop} {ls : Array Slot} {rest : List Value}
theorem z_topN (k : W p l e R s m args below meth c H locs cells slots Q (F0 m pc ls (.null :: rest))) : W p l e R s m args below meth c H locs cells slots Q (F0 m pc ls (va_rf none :: rest)) := k
theorem z_topR {a : Nat} (k : W p l e R s m args below meth c H locs cells slots Q (F0 m pc ls (.ref a :: rest))) : W p l e R s m args below meth c H locs cells slots Q (F0 m pc ls (va_rf (some a) :: rest)) := k
end ZTN
def zmA (n : Nat) (i : Int32) : Option Nat := if i < 0 then none else if nI n ≤ i then none else some i.toNatClampNeg
def zat {β : Type} (n : Nat) (g : zF) (i : Int32) (k1 : Option β) (k2 : Nat → Option β) : Option β := if g 5 = nI n then zo (zmA n i) k1 k2 else none
theorem z_at {β : Type} {qq : Nat → Nat → Nat} {n : Nat} {g : zF} {i : Int32} {k1 : Option β} {k2 : Nat → Option β} {r : β} (hn : n ≤ 12) (h : zat n g i k1 k2 = some r) : (s_X6_machineAt g (zfm qq n) i = some none ∧ k1 = some r) ∨ ∃ j, j < n ∧ i = nI j ∧ s_X6_machineAt g (zfm qq n) i = some (some (qq j 0)) ∧ k2 j = some r := by
  unfold zat at h
  by_cases hg : g 5 = nI n
  · rw [if_pos hg] at h
    rcases pk_ix i (n := n) (by omega) with h0 | h0 | ⟨j, hj, rfl⟩
    · left
      simp only [zmA, h0, if_true, zo] at h
      exact ⟨by simp [s_X6_machineAt, h0], h⟩
    · left
      by_cases h1 : i < 0
      · simp only [zmA, h1, if_true, zo] at h
        exact ⟨by simp [s_X6_machineAt, h1], h⟩
      · simp only [zmA, h1, h0, if_true, if_false, zo] at h
        exact ⟨by simp [s_X6_machineAt, h1, hg, h0], h⟩
    · right
      have h1 : ¬ nI j < 0 := nI_pos (by omega)
      have h2 : ¬ nI n ≤ nI j := nI_ge hj (by omega)
      have h3 : (nI j).toNatClampNeg = j := nI_clamp (by omega)
      have h4 : nI j < 12 := nI_lt (a := j) (b := 12) (by omega) (by omega)
      simp only [zmA, h1, h2, if_false, zo, h3] at h
      refine ⟨j, hj, rfl, ?_, h⟩
      have h5 : ¬ (12 ≤ j) := by omega
      simp [s_X6_machineAt, h1, hg, h2, h4, h3, zfm, hj, h5]
  · rw [if_neg hg] at h; cases h
