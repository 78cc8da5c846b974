def s_X7_isIn  (p1 : Int32) (p2 : Int32) (p3 : Int32) : Option Int32 := (if p1 < p2 then some (0) else (if p3 < p1 then some (0) else some (1)))
abbrev rm_X7_isIn : Room := { frames := 0, cells := 0, slots := 0, locals := 0 }
set_option maxHeartbeats 4000000 in
set_option maxRecDepth 100000 in
theorem c_X7_isIn (l : Launch) (dD : va_G) (cI cA : ClassId) (p1 : Int32) (p2 : Int32) (p3 : Int32) (rv : Int32) (hsp : s_X7_isIn p1 p2 p3 = some rv) : zMi l yX7_isIn wsX7_isIn rm_X7_isIn dD cI cA [.int p1, .int p2, .int p3] ([]) ([]) rv := by
  refine zMi_of (cc := cX7_isIn) (maxL := 3) (by decide) rfl (Nat.le_of_ble_eq_true rfl) ?_
  intro p e s m args below meth c A Q ls hx hb hml hown hts hK hA hP hD hl hret
  have hown : s.vm.findClass RX7 = some m.cls := hown
  have hS : va_S A s.heap s.heap [] := va_S.rf
  have hl : lv_has ls 3 [(0, .int p1), (1, .int p2), (2, .int p3)] := hl
  unfold s_X7_isIn at hsp
  refine lv_iload_n hx hb dX7_isIn_0 rfl (lv_at hl 0 rfl) ?_
  refine lv_iload_n hx hb dX7_isIn_1 rfl (lv_at hl 1 rfl) ?_
  refine lv_icmp_lt (tgt := 14) hx hb dX7_isIn_2 (by decide) (fun c1 => ?_) (fun c1 => ?_)
  · have hsp := z_t c1 hsp
    refine lv_iconst (v := 0) hx hb dX7_isIn_14 (by decide) ?_
    obtain rfl := Option.some.inj hsp
    exact hret _ _ ls 15 dX7_isIn_15 rfl hP hD hS
  · have hsp := z_f c1 hsp
    refine lv_iload_n hx hb dX7_isIn_5 rfl (lv_at hl 0 rfl) ?_
    refine lv_iload_n hx hb dX7_isIn_6 rfl (lv_at hl 2 rfl) ?_
    refine lv_icmp_gt (tgt := 14) hx hb dX7_isIn_7 (by decide) (fun c2 => ?_) (fun c2 => ?_)
    · have hsp := z_t c2 hsp
      refine lv_iconst (v := 0) hx hb dX7_isIn_14 (by decide) ?_
      obtain rfl := Option.some.inj hsp
      exact hret _ _ ls 15 dX7_isIn_15 rfl hP hD hS
    · have hsp := z_f c2 hsp
      refine lv_iconst (v := 1) hx hb dX7_isIn_10 (by decide) ?_
      refine lv_goto (tgt := 15) hx hb dX7_isIn_11 (by decide) ?_
      obtain rfl := Option.some.inj hsp
      exact hret _ _ ls 15 dX7_isIn_15 rfl hP hD hS
def s_X7_isMachine (g : zF) (F : Nat → zF) (p1 : Int32) : Option Int32 := zb1 (s_X7_isIn (p1) (0) (((g 5) - 1))) fun (v1 : Int32) => if v1 = 0 ∨ v1 = 1 then some (v1) else none
abbrev rm_X7_isMachine : Room := { frames := 1, cells := 0, slots := 0, locals := 22 }
set_option maxHeartbeats 4000000 in
set_option maxRecDepth 100000 in
theorem c_X7_isMachine (l : Launch) (dD : va_G) (cI cA : ClassId) (q : Nat → Nat) (g : zF) (F : Nat → zF) (p1 : Int32) (rv : Int32) (hsp : s_X7_isMachine g F p1 = some rv) : zMi l yX7_isMachine wsX7_isMachine rm_X7_isMachine dD cI cA [.ref (q 0), .int p1] (zQ cI q g F) (zQ cI q g F) rv := by
  refine zMi_of (cc := cX7_isMachine) (maxL := 2) (by decide) rfl (Nat.le_of_ble_eq_true rfl) ?_
  intro p e s m args below meth c A Q ls hx hb hml hown hts hK hA hP hD hl hret
  have hown : s.vm.findClass RX7 = some m.cls := hown
  have iX7 : ∀ w ∈ wsX70, w ∈ wsX7_isMachine := by decide +kernel
  have f119 := hts (.fieldLink RX7 119 "MeshFieldModel" "machines" "I") (by decide +kernel)
  have hS : va_S A s.heap s.heap [] := va_S.rf
  have hl : lv_has ls 2 [(0, .ref (q 0)), (1, .int p1)] := hl
  unfold s_X7_isMachine at hsp
  refine lv_iload_n hx hb dX7_isMachine_0 rfl (lv_at hl 1 rfl) ?_
  refine lv_iconst (v := 0) hx hb dX7_isMachine_1 (by decide) ?_
  refine lv_aload_n hx hb dX7_isMachine_2 rfl (lv_at hl 0 rfl) ?_
  refine va_get (D := dD) (ci := 7) (v := .int (g 5)) (C := RX7) (T := TX7) (N := 41) hx hb hts iX7 hown hK.1 hP 0 rfl rfl 5 (by decide) f119 (fun _ h9 => h9) rfl dX7_isMachine_3 ?_
  refine lv_iconst (v := 1) hx hb dX7_isMachine_6 (by decide) ?_
  refine lv_isub hx hb dX7_isMachine_7 ?_
  obtain ⟨v1, hc2, hsp⟩ := z_b1 hsp
  refine z_callSi ⟨hx, hb, hml, hown, hts⟩ hK (c_X7_isIn l dD cI cA (p1) (0) (((g 5) - 1)) v1 hc2) (va_cwS 3 hts gX7_isMachine_X7_isIn rfl rfl rfl (by decide +kernel) ⟨Nat.le_of_ble_eq_true rfl, Nat.le_of_ble_eq_true rfl⟩) (zJ.none hP hD hS hA) hS rfl hl.1 rfl (Nat.le_of_ble_eq_true rfl) dX7_isMachine_8 ⟨Nat.zero_le _, Nat.zero_le _⟩ (fun H locs hP hD hS => ?_)
  obtain ⟨h3, hsp⟩ := z_bl hsp
  obtain rfl := Option.some.inj hsp
  exact hret _ _ ls 11 dX7_isMachine_11 h3 hP hD hS
def s_X7_draw (g : zF) (F : Nat → zF) (p1 : Int32) : Option (Int32 × (zF)) := zl (va_up g 0 ((((g 0) * 1103515245) + 12345))) fun (g1 : zF) => if p1 = 0 then none else some ((zRm (zUsr (g1 0) 16) p1), g1)
abbrev rm_X7_draw : Room := { frames := 0, cells := 0, slots := 0, locals := 0 }
set_option maxHeartbeats 4000000 in
set_option maxRecDepth 100000 in
theorem c_X7_draw (l : Launch) (dD : va_G) (cI cA : ClassId) (q : Nat → Nat) (g : zF) (F : Nat → zF) (p1 : Int32) (rv : Int32) (r_g : zF) (hsp : s_X7_draw g F p1 = some (rv, r_g)) : zMi l yX7_draw wsX7_draw rm_X7_draw dD cI cA [.ref (q 0), .int p1] (zQ cI q g F) (zQ cI q r_g F) rv := by
  refine zMi_of (cc := cX7_draw) (maxL := 2) (by decide) rfl (Nat.le_of_ble_eq_true rfl) ?_
  intro p e s m args below meth c A Q ls hx hb hml hown hts hK hA hP hD hl hret
  have hown : s.vm.findClass RX7 = some m.cls := hown
  have iX7 : ∀ w ∈ wsX70, w ∈ wsX7_draw := by decide +kernel
  have f7 := hts (.fieldLink RX7 7 "MeshFieldModel" "s" "I") (by decide +kernel)
  have hS : va_S A s.heap s.heap [] := va_S.rf
  have hl : lv_has ls 2 [(0, .ref (q 0)), (1, .int p1)] := hl
  unfold s_X7_draw at hsp
  refine lv_aload_n hx hb dX7_draw_0 rfl (lv_at hl 0 rfl) ?_
  refine lv_aload_n hx hb dX7_draw_1 rfl (lv_at hl 0 rfl) ?_
  refine va_get (D := dD) (ci := 7) (v := .int (g 0)) (C := RX7) (T := TX7) (N := 41) hx hb hts iX7 hown hK.1 hP 0 rfl rfl 0 (by decide) f7 (fun _ h9 => h9) rfl dX7_draw_2 ?_
  refine lv_ldc (v := 1103515245) hx hb hown (hts (.constant RX7 126 1103515245) (by decide +kernel)) dX7_draw_5 ?_
  refine lv_imul hx hb dX7_draw_7 ?_
  refine lv_sipush (v := 12345) hx hb dX7_draw_8 (by decide) ?_
  refine lv_iadd hx hb dX7_draw_11 ?_
  refine va_put (D := dD) (ci := 7) (v := .int (((g 0) * 1103515245) + 12345)) (ty := .int) (C := RX7) (T := TX7) (N := 41) hx hb hts iX7 tyX7 tyX7_ok nmX7 hown hK.1 hP hD hS 0 rfl rfl 0 (by decide) f7 (fun _ h9 => h9) rfl (by decide +kernel) rfl rfl (Nat.le_of_ble_eq_true rfl) dX7_draw_12 (fun H locs hP hD hS => ?_)
  obtain ⟨g1, eg1, hsp⟩ := z_lt hsp
  have hP : va_P dD vwCl (zQ cI q g1 F) H := by rw [eg1]; exact hP
  have hD : va_D A (zQ cI q g1 F) := by rw [eg1]; exact hD
  refine lv_aload_n hx hb dX7_draw_15 rfl (lv_at hl 0 rfl) ?_
  refine va_get (D := dD) (ci := 7) (v := .int (g1 0)) (C := RX7) (T := TX7) (N := 41) hx hb hts iX7 hown hK.1 hP 0 rfl rfl 0 (by decide) f7 (fun _ h9 => h9) rfl dX7_draw_16 ?_
  refine lv_bipush (v := 16) hx hb dX7_draw_19 (by decide) ?_
  refine lv_iushr (v := (zUsr (g1 0) 16)) hx hb dX7_draw_21 rfl ?_
  refine lv_iload_n hx hb dX7_draw_22 rfl (lv_at hl 1 rfl) ?_
  obtain ⟨h2, hsp⟩ := z_nz hsp
  refine lv_irem hx hb dX7_draw_23 h2 ?_
  refine z_top (y := (zRm (zUsr (g1 0) 16) p1)) rfl ?_
  obtain ⟨rfl, rfl⟩ := z_i2 hsp
  exact hret _ _ ls 24 dX7_draw_24 rfl hP hD hS
def s_X7_seed (g : zF) (F : Nat → zF) (p1 : Int32) : Option (zF) := zl (va_up g 0 (p1)) fun (g1 : zF) => some (g1)
abbrev rm_X7_seed : Room := { frames := 0, cells := 0, slots := 0, locals := 0 }
set_option maxHeartbeats 4000000 in
set_option maxRecDepth 100000 in
theorem c_X7_seed (l : Launch) (dD : va_G) (cI cA : ClassId) (q : Nat → Nat) (g : zF) (F : Nat → zF) (p1 : Int32) (r_g : zF) (hsp : s_X7_seed g F p1 = some (r_g)) : zMv l yX7_seed wsX7_seed rm_X7_seed dD cI cA [.ref (q 0), .int p1] (zQ cI q g F) (zQ cI q r_g F) := by
  refine zMv_of (cc := cX7_seed) (maxL := 2) (by decide) rfl (Nat.le_of_ble_eq_true rfl) ?_
  intro p e s m args below meth c A Q ls hx hb hml hown hts hK hA hP hD hl hret
  have hown : s.vm.findClass RX7 = some m.cls := hown
  have iX7 : ∀ w ∈ wsX70, w ∈ wsX7_seed := by decide +kernel
  have f7 := hts (.fieldLink RX7 7 "MeshFieldModel" "s" "I") (by decide +kernel)
  have hS : va_S A s.heap s.heap [] := va_S.rf
  have hl : lv_has ls 2 [(0, .ref (q 0)), (1, .int p1)] := hl
  unfold s_X7_seed at hsp
  refine lv_aload_n hx hb dX7_seed_0 rfl (lv_at hl 0 rfl) ?_
  refine lv_iload_n hx hb dX7_seed_1 rfl (lv_at hl 1 rfl) ?_
  refine va_put (D := dD) (ci := 7) (v := .int p1) (ty := .int) (C := RX7) (T := TX7) (N := 41) hx hb hts iX7 tyX7 tyX7_ok nmX7 hown hK.1 hP hD hS 0 rfl rfl 0 (by decide) f7 (fun _ h9 => h9) rfl (by decide +kernel) rfl rfl (Nat.le_of_ble_eq_true rfl) dX7_seed_2 (fun H locs hP hD hS => ?_)
  obtain ⟨g1, eg1, hsp⟩ := z_lt hsp
  have hP : va_P dD vwCl (zQ cI q g1 F) H := by rw [eg1]; exact hP
  have hD : va_D A (zQ cI q g1 F) := by rw [eg1]; exact hD
  obtain rfl := Option.some.inj hsp
  exact hret _ _ ls 5 dX7_seed_5 hP hD hS
def s_X7_rules (g : zF) (F : Nat → zF) (p1 : Int32) (p2 : Int32) (p3 : Int32) (p4 : Int32) : Option (Int32 × (zF)) := zb1 (s_X7_isIn (p1) (1) (9)) fun (v1 : Int32) => (if v1 = 0 then some (0, g) else zb1 (s_X7_isIn (p2) (2) (64)) fun (v4 : Int32) => (if v4 = 0 then some (0, g) else zb1 (s_X7_isIn (p3) (p2) (1024)) fun (v7 : Int32) => (if v7 = 0 then some (0, g) else zb1 (s_X7_isIn (p4) (1) (32)) fun (v10 : Int32) => (if v10 = 0 then some (0, g) else (if (g 5) ≤ 0 then zl (va_up g 1 (p1)) fun (g14 : zF) => zl (va_up g14 2 (p2)) fun (g15 : zF) => zl (va_up g15 3 (p3)) fun (g16 : zF) => zl (va_up g16 4 (p4)) fun (g17 : zF) => some (1, g17) else some (0, g))))))
abbrev rm_X7_rules : Room := { frames := 1, cells := 0, slots := 0, locals := 22 }
set_option maxHeartbeats 4000000 in
set_option maxRecDepth 100000 in
theorem c_X7_rules (l : Launch) (dD : va_G) (cI cA : ClassId) (q : Nat → Nat) (g : zF) (F : Nat → zF) (p1 : Int32) (p2 : Int32) (p3 : Int32) (p4 : Int32) (rv : Int32) (r_g : zF) (hsp : s_X7_rules g F p1 p2 p3 p4 = some (rv, r_g)) : zMi l yX7_rules wsX7_rules rm_X7_rules dD cI cA [.ref (q 0), .int p1, .int p2, .int p3, .int p4] (zQ cI q g F) (zQ cI q r_g F) rv := by
  refine zMi_of (cc := cX7_rules) (maxL := 5) (by decide) rfl (Nat.le_of_ble_eq_true rfl) ?_
  intro p e s m args below meth c A Q ls hx hb hml hown hts hK hA hP hD hl hret
  have hown : s.vm.findClass RX7 = some m.cls := hown
  have iX7 : ∀ w ∈ wsX70, w ∈ wsX7_rules := by decide +kernel
  have f119 := hts (.fieldLink RX7 119 "MeshFieldModel" "machines" "I") (by decide +kernel)
  have f13 := hts (.fieldLink RX7 13 "MeshFieldModel" "few" "I") (by decide +kernel)
  have f16 := hts (.fieldLink RX7 16 "MeshFieldModel" "low" "I") (by decide +kernel)
  have f19 := hts (.fieldLink RX7 19 "MeshFieldModel" "high" "I") (by decide +kernel)
  have f22 := hts (.fieldLink RX7 22 "MeshFieldModel" "wait" "I") (by decide +kernel)
  have hS : va_S A s.heap s.heap [] := va_S.rf
  have hl : lv_has ls 5 [(0, .ref (q 0)), (1, .int p1), (2, .int p2), (3, .int p3), (4, .int p4)] := hl
  unfold s_X7_rules at hsp
  refine lv_iload_n hx hb dX7_rules_0 rfl (lv_at hl 1 rfl) ?_
  refine lv_iconst (v := 1) hx hb dX7_rules_1 (by decide) ?_
  refine lv_bipush (v := 9) hx hb dX7_rules_2 (by decide) ?_
  obtain ⟨v1, hc2, hsp⟩ := z_b1 hsp
  refine z_callSi ⟨hx, hb, hml, hown, hts⟩ hK (c_X7_isIn l dD cI cA (p1) (1) (9) v1 hc2) (va_cwS 3 hts gX7_rules_X7_isIn rfl rfl rfl (by decide +kernel) ⟨Nat.le_of_ble_eq_true rfl, Nat.le_of_ble_eq_true rfl⟩) (zJ.none hP hD hS hA) hS rfl hl.1 rfl (Nat.le_of_ble_eq_true rfl) dX7_rules_4 ⟨Nat.zero_le _, Nat.zero_le _⟩ (fun H locs hP hD hS => ?_)
  refine lv_if_eq (tgt := 49) hx hb dX7_rules_7 (by decide) (fun c3 => ?_) (fun c3 => ?_)
  · have hsp := z_t c3 hsp
    refine lv_iconst (v := 0) hx hb dX7_rules_49 (by decide) ?_
    obtain ⟨rfl, rfl⟩ := z_i2 hsp
    exact hret _ _ ls 50 dX7_rules_50 rfl hP hD hS
  · have hsp := z_f c3 hsp
    refine lv_iload_n hx hb dX7_rules_10 rfl (lv_at hl 2 rfl) ?_
    refine lv_iconst (v := 2) hx hb dX7_rules_11 (by decide) ?_
    refine lv_bipush (v := 64) hx hb dX7_rules_12 (by decide) ?_
    obtain ⟨v4, hc5, hsp⟩ := z_b1 hsp
    refine z_callSi ⟨hx, hb, hml, hown, hts⟩ hK (c_X7_isIn l dD cI cA (p2) (2) (64) v4 hc5) (va_cwS 3 hts gX7_rules_X7_isIn rfl rfl rfl (by decide +kernel) ⟨Nat.le_of_ble_eq_true rfl, Nat.le_of_ble_eq_true rfl⟩) (zJ.none hP hD hS hA) hS rfl hl.1 rfl (Nat.le_of_ble_eq_true rfl) dX7_rules_14 ⟨Nat.zero_le _, Nat.zero_le _⟩ (fun H locs hP hD hS => ?_)
    refine lv_if_eq (tgt := 49) hx hb dX7_rules_17 (by decide) (fun c6 => ?_) (fun c6 => ?_)
    · have hsp := z_t c6 hsp
      refine lv_iconst (v := 0) hx hb dX7_rules_49 (by decide) ?_
      obtain ⟨rfl, rfl⟩ := z_i2 hsp
      exact hret _ _ ls 50 dX7_rules_50 rfl hP hD hS
    · have hsp := z_f c6 hsp
      refine lv_iload_n hx hb dX7_rules_20 rfl (lv_at hl 3 rfl) ?_
      refine lv_iload_n hx hb dX7_rules_21 rfl (lv_at hl 2 rfl) ?_
      refine lv_sipush (v := 1024) hx hb dX7_rules_22 (by decide) ?_
      obtain ⟨v7, hc8, hsp⟩ := z_b1 hsp
      refine z_callSi ⟨hx, hb, hml, hown, hts⟩ hK (c_X7_isIn l dD cI cA (p3) (p2) (1024) v7 hc8) (va_cwS 3 hts gX7_rules_X7_isIn rfl rfl rfl (by decide +kernel) ⟨Nat.le_of_ble_eq_true rfl, Nat.le_of_ble_eq_true rfl⟩) (zJ.none hP hD hS hA) hS rfl hl.1 rfl (Nat.le_of_ble_eq_true rfl) dX7_rules_25 ⟨Nat.zero_le _, Nat.zero_le _⟩ (fun H locs hP hD hS => ?_)
      refine lv_if_eq (tgt := 49) hx hb dX7_rules_28 (by decide) (fun c9 => ?_) (fun c9 => ?_)
      · have hsp := z_t c9 hsp
        refine lv_iconst (v := 0) hx hb dX7_rules_49 (by decide) ?_
        obtain ⟨rfl, rfl⟩ := z_i2 hsp
        exact hret _ _ ls 50 dX7_rules_50 rfl hP hD hS
      · have hsp := z_f c9 hsp
        refine lv_iload hx hb dX7_rules_31 (lv_at hl 4 rfl) ?_
        refine lv_iconst (v := 1) hx hb dX7_rules_33 (by decide) ?_
        refine lv_bipush (v := 32) hx hb dX7_rules_34 (by decide) ?_
        obtain ⟨v10, hc11, hsp⟩ := z_b1 hsp
        refine z_callSi ⟨hx, hb, hml, hown, hts⟩ hK (c_X7_isIn l dD cI cA (p4) (1) (32) v10 hc11) (va_cwS 3 hts gX7_rules_X7_isIn rfl rfl rfl (by decide +kernel) ⟨Nat.le_of_ble_eq_true rfl, Nat.le_of_ble_eq_true rfl⟩) (zJ.none hP hD hS hA) hS rfl hl.1 rfl (Nat.le_of_ble_eq_true rfl) dX7_rules_36 ⟨Nat.zero_le _, Nat.zero_le _⟩ (fun H locs hP hD hS => ?_)
        refine lv_if_eq (tgt := 49) hx hb dX7_rules_39 (by decide) (fun c12 => ?_) (fun c12 => ?_)
        · have hsp := z_t c12 hsp
          refine lv_iconst (v := 0) hx hb dX7_rules_49 (by decide) ?_
          obtain ⟨rfl, rfl⟩ := z_i2 hsp
          exact hret _ _ ls 50 dX7_rules_50 rfl hP hD hS
        · have hsp := z_f c12 hsp
          refine lv_aload_n hx hb dX7_rules_42 rfl (lv_at hl 0 rfl) ?_
          refine va_get (D := dD) (ci := 7) (v := .int (g 5)) (C := RX7) (T := TX7) (N := 41) hx hb hts iX7 hown hK.1 hP 0 rfl rfl 5 (by decide) f119 (fun _ h9 => h9) rfl dX7_rules_43 ?_
          refine lv_if_le (tgt := 51) hx hb dX7_rules_46 (by decide) (fun c13 => ?_) (fun c13 => ?_)
          · have hsp := z_t c13 hsp
            refine lv_aload_n hx hb dX7_rules_51 rfl (lv_at hl 0 rfl) ?_
            refine lv_iload_n hx hb dX7_rules_52 rfl (lv_at hl 1 rfl) ?_
            refine va_put (D := dD) (ci := 7) (v := .int p1) (ty := .int) (C := RX7) (T := TX7) (N := 41) hx hb hts iX7 tyX7 tyX7_ok nmX7 hown hK.1 hP hD hS 0 rfl rfl 1 (by decide) f13 (fun _ h9 => h9) rfl (by decide +kernel) rfl rfl (Nat.le_of_ble_eq_true rfl) dX7_rules_53 (fun H locs hP hD hS => ?_)
            obtain ⟨g14, eg14, hsp⟩ := z_lt hsp
            have hP : va_P dD vwCl (zQ cI q g14 F) H := by rw [eg14]; exact hP
            have hD : va_D A (zQ cI q g14 F) := by rw [eg14]; exact hD
            refine lv_aload_n hx hb dX7_rules_56 rfl (lv_at hl 0 rfl) ?_
            refine lv_iload_n hx hb dX7_rules_57 rfl (lv_at hl 2 rfl) ?_
            refine va_put (D := dD) (ci := 7) (v := .int p2) (ty := .int) (C := RX7) (T := TX7) (N := 41) hx hb hts iX7 tyX7 tyX7_ok nmX7 hown hK.1 hP hD hS 0 rfl rfl 2 (by decide) f16 (fun _ h9 => h9) rfl (by decide +kernel) rfl rfl (Nat.le_of_ble_eq_true rfl) dX7_rules_58 (fun H locs hP hD hS => ?_)
            obtain ⟨g15, eg15, hsp⟩ := z_lt hsp
            have hP : va_P dD vwCl (zQ cI q g15 F) H := by rw [eg15]; exact hP
            have hD : va_D A (zQ cI q g15 F) := by rw [eg15]; exact hD
            refine lv_aload_n hx hb dX7_rules_61 rfl (lv_at hl 0 rfl) ?_
            refine lv_iload_n hx hb dX7_rules_62 rfl (lv_at hl 3 rfl) ?_
            refine va_put (D := dD) (ci := 7) (v := .int p3) (ty := .int) (C := RX7) (T := TX7) (N := 41) hx hb hts iX7 tyX7 tyX7_ok nmX7 hown hK.1 hP hD hS 0 rfl rfl 3 (by decide) f19 (fun _ h9 => h9) rfl (by decide +kernel) rfl rfl (Nat.le_of_ble_eq_true rfl) dX7_rules_63 (fun H locs hP hD hS => ?_)
            obtain ⟨g16, eg16, hsp⟩ := z_lt hsp
            have hP : va_P dD vwCl (zQ cI q g16 F) H := by rw [eg16]; exact hP
            have hD : va_D A (zQ cI q g16 F) := by rw [eg16]; exact hD
            refine lv_aload_n hx hb dX7_rules_66 rfl (lv_at hl 0 rfl) ?_
            refine lv_iload hx hb dX7_rules_67 (lv_at hl 4 rfl) ?_
            refine va_put (D := dD) (ci := 7) (v := .int p4) (ty := .int) (C := RX7) (T := TX7) (N := 41) hx hb hts iX7 tyX7 tyX7_ok nmX7 hown hK.1 hP hD hS 0 rfl rfl 4 (by decide) f22 (fun _ h9 => h9) rfl (by decide +kernel) rfl rfl (Nat.le_of_ble_eq_true rfl) dX7_rules_69 (fun H locs hP hD hS => ?_)
            obtain ⟨g17, eg17, hsp⟩ := z_lt hsp
            have hP : va_P dD vwCl (zQ cI q g17 F) H := by rw [eg17]; exact hP
            have hD : va_D A (zQ cI q g17 F) := by rw [eg17]; exact hD
            refine lv_iconst (v := 1) hx hb dX7_rules_72 (by decide) ?_
            obtain ⟨rfl, rfl⟩ := z_i2 hsp
            exact hret _ _ ls 73 dX7_rules_73 rfl hP hD hS
          · have hsp := z_f c13 hsp
            refine lv_iconst (v := 0) hx hb dX7_rules_49 (by decide) ?_
            obtain ⟨rfl, rfl⟩ := z_i2 hsp
            exact hret _ _ ls 50 dX7_rules_50 rfl hP hD hS
def s_X7_begin (g : zF) (F : Nat → zF) (p1 : Int32) (p2 : Int32) : Option ((zF) × (Nat → zF)) := if p1 < 0 ∨ 12 ≤ (p1).toNatClampNeg then none else zl (zu F 18 (p1).toNatClampNeg (p2)) fun (F2 : Nat → zF) => if p1 < 0 ∨ 12 ≤ (p1).toNatClampNeg then none else zl (zu F2 20 (p1).toNatClampNeg (0)) fun (F4 : Nat → zF) => if p1 < 0 ∨ 12 ≤ (p1).toNatClampNeg then none else if p1 < 0 ∨ 12 ≤ (p1).toNatClampNeg then none else if p1 < 0 ∨ 12 ≤ (p1).toNatClampNeg then none else zb2 (s_X7_draw g F4 ((((F4 17) (p1).toNatClampNeg) - (((F4 17) (p1).toNatClampNeg) / 2)))) fun (v8 : Int32) (g9 : zF) => if p1 < 0 ∨ 12 ≤ (p1).toNatClampNeg then none else zl (zu F4 19 (p1).toNatClampNeg (((p2 + (((F4 17) (p1).toNatClampNeg) / 2)) + v8))) fun (F12 : Nat → zF) => some (g9, F12)
abbrev rm_X7_begin : Room := { frames := 1, cells := 0, slots := 0, locals := 21 }
set_option maxHeartbeats 4000000 in
set_option maxRecDepth 100000 in
theorem c_X7_begin (l : Launch) (dD : va_G) (cI cA : ClassId) (q : Nat → Nat) (g : zF) (F : Nat → zF) (p1 : Int32) (p2 : Int32) (r_g : zF) (r_F : Nat → zF) (hsp : s_X7_begin g F p1 p2 = some (r_g, r_F)) : zMv l yX7_begin wsX7_begin rm_X7_begin dD cI cA [.ref (q 0), .int p1, .int p2] (zQ cI q g F) (zQ cI q r_g r_F) := by
  refine zMv_of (cc := cX7_begin) (maxL := 3) (by decide) rfl (Nat.le_of_ble_eq_true rfl) ?_
  intro p e s m args below meth c A Q ls hx hb hml hown hts hK hA hP hD hl hret
  have hown : s.vm.findClass RX7 = some m.cls := hown
  have iX7 : ∀ w ∈ wsX70, w ∈ wsX7_begin := by decide +kernel
  have f53 := hts (.fieldLink RX7 53 "MeshFieldModel" "began" "[I") (by decide +kernel)
  have f59 := hts (.fieldLink RX7 59 "MeshFieldModel" "heard" "[I") (by decide +kernel)
  have f56 := hts (.fieldLink RX7 56 "MeshFieldModel" "tellsAt" "[I") (by decide +kernel)
  have f50 := hts (.fieldLink RX7 50 "MeshFieldModel" "span" "[I") (by decide +kernel)
  have hS : va_S A s.heap s.heap [] := va_S.rf
  have hl : lv_has ls 3 [(0, .ref (q 0)), (1, .int p1), (2, .int p2)] := hl
  unfold s_X7_begin at hsp
  refine lv_aload_n hx hb dX7_begin_0 rfl (lv_at hl 0 rfl) ?_
  refine va_get (D := dD) (ci := 7) (v := .ref (q 18)) (C := RX7) (T := TX7) (N := 41) hx hb hts iX7 hown hK.1 hP 0 rfl rfl 18 (by decide) f53 (fun _ h9 => h9) rfl dX7_begin_1 ?_
  refine lv_iload_n hx hb dX7_begin_4 rfl (lv_at hl 1 rfl) ?_
  refine lv_iload_n hx hb dX7_begin_5 rfl (lv_at hl 2 rfl) ?_
  obtain ⟨h1, hsp⟩ := z_in hsp
  refine va_iast hx hb hK.1 hP hD hS 10 0 rfl rfl h1 dX7_begin_6 (fun H locs hP hD hS => ?_)
  obtain ⟨F2, eF2, hsp⟩ := z_lt hsp
  have hP : va_P dD vwCl (zQ cI q g F2) H := by rw [eF2]; exact hP
  have hD : va_D A (zQ cI q g F2) := by rw [eF2]; exact hD
  refine lv_aload_n hx hb dX7_begin_7 rfl (lv_at hl 0 rfl) ?_
  refine va_get (D := dD) (ci := 7) (v := .ref (q 20)) (C := RX7) (T := TX7) (N := 41) hx hb hts iX7 hown hK.1 hP 0 rfl rfl 20 (by decide) f59 (fun _ h9 => h9) rfl dX7_begin_8 ?_
  refine lv_iload_n hx hb dX7_begin_11 rfl (lv_at hl 1 rfl) ?_
  refine lv_iconst (v := 0) hx hb dX7_begin_12 (by decide) ?_
  obtain ⟨h3, hsp⟩ := z_in hsp
  refine va_iast hx hb hK.1 hP hD hS 12 0 rfl rfl h3 dX7_begin_13 (fun H locs hP hD hS => ?_)
  obtain ⟨F4, eF4, hsp⟩ := z_lt hsp
  have hP : va_P dD vwCl (zQ cI q g F4) H := by rw [eF4]; exact hP
  have hD : va_D A (zQ cI q g F4) := by rw [eF4]; exact hD
  refine lv_aload_n hx hb dX7_begin_14 rfl (lv_at hl 0 rfl) ?_
  refine va_get (D := dD) (ci := 7) (v := .ref (q 19)) (C := RX7) (T := TX7) (N := 41) hx hb hts iX7 hown hK.1 hP 0 rfl rfl 19 (by decide) f56 (fun _ h9 => h9) rfl dX7_begin_15 ?_
  refine lv_iload_n hx hb dX7_begin_18 rfl (lv_at hl 1 rfl) ?_
  refine lv_iload_n hx hb dX7_begin_19 rfl (lv_at hl 2 rfl) ?_
  refine lv_aload_n hx hb dX7_begin_20 rfl (lv_at hl 0 rfl) ?_
  refine va_get (D := dD) (ci := 7) (v := .ref (q 17)) (C := RX7) (T := TX7) (N := 41) hx hb hts iX7 hown hK.1 hP 0 rfl rfl 17 (by decide) f50 (fun _ h9 => h9) rfl dX7_begin_21 ?_
  refine lv_iload_n hx hb dX7_begin_24 rfl (lv_at hl 1 rfl) ?_
  obtain ⟨h5, hsp⟩ := z_in hsp
  refine va_iald hx hb hK.1 hP 9 0 rfl rfl h5 dX7_begin_25 ?_
  refine lv_iconst (v := 2) hx hb dX7_begin_26 (by decide) ?_
  refine lv_idiv hx hb dX7_begin_27 (by decide) ?_
  refine lv_iadd hx hb dX7_begin_28 ?_
  refine lv_aload_n hx hb dX7_begin_29 rfl (lv_at hl 0 rfl) ?_
  refine lv_aload_n hx hb dX7_begin_30 rfl (lv_at hl 0 rfl) ?_
  refine va_get (D := dD) (ci := 7) (v := .ref (q 17)) (C := RX7) (T := TX7) (N := 41) hx hb hts iX7 hown hK.1 hP 0 rfl rfl 17 (by decide) f50 (fun _ h9 => h9) rfl dX7_begin_31 ?_
  refine lv_iload_n hx hb dX7_begin_34 rfl (lv_at hl 1 rfl) ?_
  obtain ⟨h6, hsp⟩ := z_in hsp
  refine va_iald hx hb hK.1 hP 9 0 rfl rfl h6 dX7_begin_35 ?_
  refine lv_aload_n hx hb dX7_begin_36 rfl (lv_at hl 0 rfl) ?_
  refine va_get (D := dD) (ci := 7) (v := .ref (q 17)) (C := RX7) (T := TX7) (N := 41) hx hb hts iX7 hown hK.1 hP 0 rfl rfl 17 (by decide) f50 (fun _ h9 => h9) rfl dX7_begin_37 ?_
  refine lv_iload_n hx hb dX7_begin_40 rfl (lv_at hl 1 rfl) ?_
  obtain ⟨h7, hsp⟩ := z_in hsp
  refine va_iald hx hb hK.1 hP 9 0 rfl rfl h7 dX7_begin_41 ?_
  refine lv_iconst (v := 2) hx hb dX7_begin_42 (by decide) ?_
  refine lv_idiv hx hb dX7_begin_43 (by decide) ?_
  refine lv_isub hx hb dX7_begin_44 ?_
  obtain ⟨v8, g9, hc10, hsp⟩ := z_b2 hsp
  refine z_callVi ⟨hx, hb, hml, hown, hts⟩ hK (c_X7_draw l dD cI cA q g F4 ((((F4 17) (p1).toNatClampNeg) - (((F4 17) (p1).toNatClampNeg) / 2))) v8 g9 hc10) (cwV 1 hts gX7_begin_X7_draw rfl rfl rfl (by decide +kernel) ⟨Nat.le_of_ble_eq_true rfl, Nat.le_of_ble_eq_true rfl⟩) (zJ.full hP hD hS hA) hS 0 7 rfl rfl rfl rfl hl.1 rfl (Nat.le_of_ble_eq_true rfl) dX7_begin_45 ⟨Nat.zero_le _, Nat.zero_le _⟩ (fun H locs hP hD hS => ?_)
  refine lv_iadd hx hb dX7_begin_48 ?_
  obtain ⟨h11, hsp⟩ := z_in hsp
  refine va_iast hx hb hK.1 hP hD hS 11 0 rfl rfl h11 dX7_begin_49 (fun H locs hP hD hS => ?_)
  obtain ⟨F12, eF12, hsp⟩ := z_lt hsp
  have hP : va_P dD vwCl (zQ cI q g9 F12) H := by rw [eF12]; exact hP
  have hD : va_D A (zQ cI q g9 F12) := by rw [eF12]; exact hD
  obtain ⟨rfl, rfl⟩ := z_i2 hsp
  exact hret _ _ ls 50 dX7_begin_50 hP hD hS
def s_X7_machine (g : zF) (F : Nat → zF) : Option (Int32 × (zF) × (Nat → zF)) := (if (g 5) = 12 then some ((-1), g, F) else zl ((g 5)) fun (x2 : Int32) => zl (va_up g 5 (((g 5) + 1))) fun (g3 : zF) => if x2 < 0 ∨ 12 ≤ (x2).toNatClampNeg then none else zl (zu F 17 (x2).toNatClampNeg ((g3 2))) fun (F5 : Nat → zF) => if x2 < 0 ∨ 12 ≤ (x2).toNatClampNeg then none else zl (zu F5 21 (x2).toNatClampNeg ((-1))) fun (F7 : Nat → zF) => zb2 (s_X7_begin g3 F7 (x2) ((g3 6))) fun (g8 : zF) (F9 : Nat → zF) => some (x2, g8, F9))
abbrev rm_X7_machine : Room := { frames := 2, cells := 0, slots := 0, locals := 43 }
set_option maxHeartbeats 4000000 in
set_option maxRecDepth 100000 in
theorem c_X7_machine (l : Launch) (dD : va_G) (cI cA : ClassId) (q : Nat → Nat) (g : zF) (F : Nat → zF) (rv : Int32) (r_g : zF) (r_F : Nat → zF) (hsp : s_X7_machine g F = some (rv, r_g, r_F)) : zMi l yX7_machine wsX7_machine rm_X7_machine dD cI cA [.ref (q 0)] (zQ cI q g F) (zQ cI q r_g r_F) rv := by
  refine zMi_of (cc := cX7_machine) (maxL := 2) (by decide) rfl (Nat.le_of_ble_eq_true rfl) ?_
  intro p e s m args below meth c A Q ls hx hb hml hown hts hK hA hP hD hl hret
  have hown : s.vm.findClass RX7 = some m.cls := hown
  have iX7 : ∀ w ∈ wsX70, w ∈ wsX7_machine := by decide +kernel
  have f119 := hts (.fieldLink RX7 119 "MeshFieldModel" "machines" "I") (by decide +kernel)
  have f50 := hts (.fieldLink RX7 50 "MeshFieldModel" "span" "[I") (by decide +kernel)
  have f16 := hts (.fieldLink RX7 16 "MeshFieldModel" "low" "I") (by decide +kernel)
  have f62 := hts (.fieldLink RX7 62 "MeshFieldModel" "dataAt" "[I") (by decide +kernel)
  have f131 := hts (.fieldLink RX7 131 "MeshFieldModel" "tick" "I") (by decide +kernel)
  have hS : va_S A s.heap s.heap [] := va_S.rf
  have hl : lv_has ls 2 [(0, .ref (q 0))] := hl
  unfold s_X7_machine at hsp
  refine lv_aload_n hx hb dX7_machine_0 rfl (lv_at hl 0 rfl) ?_
  refine va_get (D := dD) (ci := 7) (v := .int (g 5)) (C := RX7) (T := TX7) (N := 41) hx hb hts iX7 hown hK.1 hP 0 rfl rfl 5 (by decide) f119 (fun _ h9 => h9) rfl dX7_machine_1 ?_
  refine lv_bipush (v := 12) hx hb dX7_machine_4 (by decide) ?_
  refine lv_icmp_ne (tgt := 11) hx hb dX7_machine_6 (by decide) (fun c1 => ?_) (fun c1 => ?_)
  · have hsp := z_f c1 hsp
    refine lv_aload_n hx hb dX7_machine_11 rfl (lv_at hl 0 rfl) ?_
    refine va_get (D := dD) (ci := 7) (v := .int (g 5)) (C := RX7) (T := TX7) (N := 41) hx hb hts iX7 hown hK.1 hP 0 rfl rfl 5 (by decide) f119 (fun _ h9 => h9) rfl dX7_machine_12 ?_
    obtain ⟨x2, ex2, hsp⟩ := z_lt hsp
    refine z_top ex2 ?_
    refine lv_istore_n (lv' := [(1, .int x2), (0, .ref (q 0))]) hx hb dX7_machine_15 rfl hl (by decide) rfl (fun ls hl => ?_)
    refine lv_aload_n hx hb dX7_machine_16 rfl (lv_at hl 1 rfl) ?_
    refine lv_dup hx hb dX7_machine_17 rfl ?_
    refine va_get (D := dD) (ci := 7) (v := .int (g 5)) (C := RX7) (T := TX7) (N := 41) hx hb hts iX7 hown hK.1 hP 0 rfl rfl 5 (by decide) f119 (fun _ h9 => h9) rfl dX7_machine_18 ?_
    refine lv_iconst (v := 1) hx hb dX7_machine_21 (by decide) ?_
    refine lv_iadd hx hb dX7_machine_22 ?_
    refine va_put (D := dD) (ci := 7) (v := .int ((g 5) + 1)) (ty := .int) (C := RX7) (T := TX7) (N := 41) hx hb hts iX7 tyX7 tyX7_ok nmX7 hown hK.1 hP hD hS 0 rfl rfl 5 (by decide) f119 (fun _ h9 => h9) rfl (by decide +kernel) rfl rfl (Nat.le_of_ble_eq_true rfl) dX7_machine_23 (fun H locs hP hD hS => ?_)
    obtain ⟨g3, eg3, hsp⟩ := z_lt hsp
    have hP : va_P dD vwCl (zQ cI q g3 F) H := by rw [eg3]; exact hP
    have hD : va_D A (zQ cI q g3 F) := by rw [eg3]; exact hD
    refine lv_aload_n hx hb dX7_machine_26 rfl (lv_at hl 1 rfl) ?_
    refine va_get (D := dD) (ci := 7) (v := .ref (q 17)) (C := RX7) (T := TX7) (N := 41) hx hb hts iX7 hown hK.1 hP 0 rfl rfl 17 (by decide) f50 (fun _ h9 => h9) rfl dX7_machine_27 ?_
    refine lv_iload_n hx hb dX7_machine_30 rfl (lv_at hl 0 rfl) ?_
    refine lv_aload_n hx hb dX7_machine_31 rfl (lv_at hl 1 rfl) ?_
    refine va_get (D := dD) (ci := 7) (v := .int (g3 2)) (C := RX7) (T := TX7) (N := 41) hx hb hts iX7 hown hK.1 hP 0 rfl rfl 2 (by decide) f16 (fun _ h9 => h9) rfl dX7_machine_32 ?_
    obtain ⟨h4, hsp⟩ := z_in hsp
    refine va_iast hx hb hK.1 hP hD hS 9 0 rfl rfl h4 dX7_machine_35 (fun H locs hP hD hS => ?_)
    obtain ⟨F5, eF5, hsp⟩ := z_lt hsp
    have hP : va_P dD vwCl (zQ cI q g3 F5) H := by rw [eF5]; exact hP
    have hD : va_D A (zQ cI q g3 F5) := by rw [eF5]; exact hD
    refine lv_aload_n hx hb dX7_machine_36 rfl (lv_at hl 1 rfl) ?_
    refine va_get (D := dD) (ci := 7) (v := .ref (q 21)) (C := RX7) (T := TX7) (N := 41) hx hb hts iX7 hown hK.1 hP 0 rfl rfl 21 (by decide) f62 (fun _ h9 => h9) rfl dX7_machine_37 ?_
    refine lv_iload_n hx hb dX7_machine_40 rfl (lv_at hl 0 rfl) ?_
    refine lv_iconst (v := (-1)) hx hb dX7_machine_41 (by decide) ?_
    obtain ⟨h6, hsp⟩ := z_in hsp
    refine va_iast hx hb hK.1 hP hD hS 13 0 rfl rfl h6 dX7_machine_42 (fun H locs hP hD hS => ?_)
    obtain ⟨F7, eF7, hsp⟩ := z_lt hsp
    have hP : va_P dD vwCl (zQ cI q g3 F7) H := by rw [eF7]; exact hP
    have hD : va_D A (zQ cI q g3 F7) := by rw [eF7]; exact hD
    refine lv_aload_n hx hb dX7_machine_43 rfl (lv_at hl 1 rfl) ?_
    refine lv_iload_n hx hb dX7_machine_44 rfl (lv_at hl 0 rfl) ?_
    refine lv_aload_n hx hb dX7_machine_45 rfl (lv_at hl 1 rfl) ?_
    refine va_get (D := dD) (ci := 7) (v := .int (g3 6)) (C := RX7) (T := TX7) (N := 41) hx hb hts iX7 hown hK.1 hP 0 rfl rfl 6 (by decide) f131 (fun _ h9 => h9) rfl dX7_machine_46 ?_
    obtain ⟨g8, F9, hc10, hsp⟩ := z_b2 hsp
    refine z_callVv ⟨hx, hb, hml, hown, hts⟩ hK (c_X7_begin l dD cI cA q g3 F7 (x2) ((g3 6)) g8 F9 hc10) (cwV 2 hts gX7_machine_X7_begin rfl rfl rfl (by decide +kernel) ⟨Nat.le_of_ble_eq_true rfl, Nat.le_of_ble_eq_true rfl⟩) (zJ.full hP hD hS hA) hS 0 7 rfl rfl rfl rfl hl.1 rfl (Nat.le_of_ble_eq_true rfl) dX7_machine_49 ⟨Nat.zero_le _, Nat.zero_le _⟩ (fun H locs hP hD hS => ?_)
    refine lv_iload_n hx hb dX7_machine_52 rfl (lv_at hl 0 rfl) ?_
    obtain ⟨rfl, rfl, rfl⟩ := z_i3 hsp
    exact hret _ _ ls 53 dX7_machine_53 rfl hP hD hS
  · have hsp := z_t c1 hsp
    refine lv_iconst (v := (-1)) hx hb dX7_machine_9 (by decide) ?_
    obtain ⟨rfl, rfl, rfl⟩ := z_i3 hsp
    exact hret _ _ ls 10 dX7_machine_10 rfl hP hD hS
def s_X7_hears (g : zF) (F : Nat → zF) (p1 : Int32) (p2 : Int32) (p3 : Int32) : Option (Int32 × (Nat → zF)) := zb1 (s_X7_isMachine g F (p1)) fun (v1 : Int32) => (if v1 = 0 then some (0, F) else zb1 (s_X7_isMachine g F (p2)) fun (v4 : Int32) => (if v4 = 0 then some (0, F) else (if p1 = p2 then some (0, F) else zb1 (s_X7_isIn (p3) ((-1)) (100)) fun (v8 : Int32) => (if v8 = 0 then some (0, F) else if ((12 * p1) + p2) < 0 ∨ 144 ≤ (((12 * p1) + p2)).toNatClampNeg then none else zl (zu F 10 (((12 * p1) + p2)).toNatClampNeg (p3)) fun (F12 : Nat → zF) => some (1, F12)))))
abbrev rm_X7_hears : Room := { frames := 2, cells := 0, slots := 0, locals := 43 }
set_option maxHeartbeats 4000000 in
set_option maxRecDepth 100000 in
theorem c_X7_hears (l : Launch) (dD : va_G) (cI cA : ClassId) (q : Nat → Nat) (g : zF) (F : Nat → zF) (p1 : Int32) (p2 : Int32) (p3 : Int32) (rv : Int32) (r_F : Nat → zF) (hsp : s_X7_hears g F p1 p2 p3 = some (rv, r_F)) : zMi l yX7_hears wsX7_hears rm_X7_hears dD cI cA [.ref (q 0), .int p1, .int p2, .int p3] (zQ cI q g F) (zQ cI q g r_F) rv := by
  refine zMi_of (cc := cX7_hears) (maxL := 4) (by decide) rfl (Nat.le_of_ble_eq_true rfl) ?_
  intro p e s m args below meth c A Q ls hx hb hml hown hts hK hA hP hD hl hret
  have hown : s.vm.findClass RX7 = some m.cls := hown
  have iX7 : ∀ w ∈ wsX70, w ∈ wsX7_hears := by decide +kernel
  have f29 := hts (.fieldLink RX7 29 "MeshFieldModel" "odds" "[I") (by decide +kernel)
  have hS : va_S A s.heap s.heap [] := va_S.rf
  have hl : lv_has ls 4 [(0, .ref (q 0)), (1, .int p1), (2, .int p2), (3, .int p3)] := hl
  unfold s_X7_hears at hsp
  refine lv_aload_n hx hb dX7_hears_0 rfl (lv_at hl 0 rfl) ?_
  refine lv_iload_n hx hb dX7_hears_1 rfl (lv_at hl 1 rfl) ?_
  obtain ⟨v1, hc2, hsp⟩ := z_b1 hsp
  refine z_callVi ⟨hx, hb, hml, hown, hts⟩ hK (c_X7_isMachine l dD cI cA q g F (p1) v1 hc2) (cwV 1 hts gX7_hears_X7_isMachine rfl rfl rfl (by decide +kernel) ⟨Nat.le_of_ble_eq_true rfl, Nat.le_of_ble_eq_true rfl⟩) (zJ.full hP hD hS hA) hS 0 7 rfl rfl rfl rfl hl.1 rfl (Nat.le_of_ble_eq_true rfl) dX7_hears_2 ⟨Nat.zero_le _, Nat.zero_le _⟩ (fun H locs hP hD hS => ?_)
  refine lv_if_eq (tgt := 31) hx hb dX7_hears_5 (by decide) (fun c3 => ?_) (fun c3 => ?_)
  · have hsp := z_t c3 hsp
    refine lv_iconst (v := 0) hx hb dX7_hears_31 (by decide) ?_
    obtain ⟨rfl, rfl⟩ := z_i2 hsp
    exact hret _ _ ls 32 dX7_hears_32 rfl hP hD hS
  · have hsp := z_f c3 hsp
    refine lv_aload_n hx hb dX7_hears_8 rfl (lv_at hl 0 rfl) ?_
    refine lv_iload_n hx hb dX7_hears_9 rfl (lv_at hl 2 rfl) ?_
    obtain ⟨v4, hc5, hsp⟩ := z_b1 hsp
    refine z_callVi ⟨hx, hb, hml, hown, hts⟩ hK (c_X7_isMachine l dD cI cA q g F (p2) v4 hc5) (cwV 1 hts gX7_hears_X7_isMachine rfl rfl rfl (by decide +kernel) ⟨Nat.le_of_ble_eq_true rfl, Nat.le_of_ble_eq_true rfl⟩) (zJ.full hP hD hS hA) hS 0 7 rfl rfl rfl rfl hl.1 rfl (Nat.le_of_ble_eq_true rfl) dX7_hears_10 ⟨Nat.zero_le _, Nat.zero_le _⟩ (fun H locs hP hD hS => ?_)
    refine lv_if_eq (tgt := 31) hx hb dX7_hears_13 (by decide) (fun c6 => ?_) (fun c6 => ?_)
    · have hsp := z_t c6 hsp
      refine lv_iconst (v := 0) hx hb dX7_hears_31 (by decide) ?_
      obtain ⟨rfl, rfl⟩ := z_i2 hsp
      exact hret _ _ ls 32 dX7_hears_32 rfl hP hD hS
    · have hsp := z_f c6 hsp
      refine lv_iload_n hx hb dX7_hears_16 rfl (lv_at hl 1 rfl) ?_
      refine lv_iload_n hx hb dX7_hears_17 rfl (lv_at hl 2 rfl) ?_
      refine lv_icmp_eq (tgt := 31) hx hb dX7_hears_18 (by decide) (fun c7 => ?_) (fun c7 => ?_)
      · have hsp := z_t c7 hsp
        refine lv_iconst (v := 0) hx hb dX7_hears_31 (by decide) ?_
        obtain ⟨rfl, rfl⟩ := z_i2 hsp
        exact hret _ _ ls 32 dX7_hears_32 rfl hP hD hS
      · have hsp := z_f c7 hsp
        refine lv_iload_n hx hb dX7_hears_21 rfl (lv_at hl 3 rfl) ?_
        refine lv_iconst (v := (-1)) hx hb dX7_hears_22 (by decide) ?_
        refine lv_bipush (v := 100) hx hb dX7_hears_23 (by decide) ?_
        obtain ⟨v8, hc9, hsp⟩ := z_b1 hsp
        refine z_callSi ⟨hx, hb, hml, hown, hts⟩ hK (c_X7_isIn l dD cI cA (p3) ((-1)) (100) v8 hc9) (va_cwS 3 hts gX7_hears_X7_isIn rfl rfl rfl (by decide +kernel) ⟨Nat.le_of_ble_eq_true rfl, Nat.le_of_ble_eq_true rfl⟩) (zJ.none hP hD hS hA) hS rfl hl.1 rfl (Nat.le_of_ble_eq_true rfl) dX7_hears_25 ⟨Nat.zero_le _, Nat.zero_le _⟩ (fun H locs hP hD hS => ?_)
        refine lv_if_ne (tgt := 33) hx hb dX7_hears_28 (by decide) (fun c10 => ?_) (fun c10 => ?_)
        · have hsp := z_f c10 hsp
          refine lv_aload_n hx hb dX7_hears_33 rfl (lv_at hl 0 rfl) ?_
          refine va_get (D := dD) (ci := 7) (v := .ref (q 10)) (C := RX7) (T := TX7) (N := 41) hx hb hts iX7 hown hK.1 hP 0 rfl rfl 10 (by decide) f29 (fun _ h9 => h9) rfl dX7_hears_34 ?_
          refine lv_bipush (v := 12) hx hb dX7_hears_37 (by decide) ?_
          refine lv_iload_n hx hb dX7_hears_39 rfl (lv_at hl 1 rfl) ?_
          refine lv_imul hx hb dX7_hears_40 ?_
          refine lv_iload_n hx hb dX7_hears_41 rfl (lv_at hl 2 rfl) ?_
          refine lv_iadd hx hb dX7_hears_42 ?_
          refine lv_iload_n hx hb dX7_hears_43 rfl (lv_at hl 3 rfl) ?_
          obtain ⟨h11, hsp⟩ := z_in hsp
          refine va_iast hx hb hK.1 hP hD hS 2 0 rfl rfl h11 dX7_hears_44 (fun H locs hP hD hS => ?_)
          obtain ⟨F12, eF12, hsp⟩ := z_lt hsp
          have hP : va_P dD vwCl (zQ cI q g F12) H := by rw [eF12]; exact hP
          have hD : va_D A (zQ cI q g F12) := by rw [eF12]; exact hD
          refine lv_iconst (v := 1) hx hb dX7_hears_45 (by decide) ?_
          obtain ⟨rfl, rfl⟩ := z_i2 hsp
          exact hret _ _ ls 46 dX7_hears_46 rfl hP hD hS
        · have hsp := z_t c10 hsp
          refine lv_iconst (v := 0) hx hb dX7_hears_31 (by decide) ?_
          obtain ⟨rfl, rfl⟩ := z_i2 hsp
          exact hret _ _ ls 32 dX7_hears_32 rfl hP hD hS
def s_X7_piece (g : zF) (F : Nat → zF) (p1 : Int32) : Option (Int32 × (zF) × (Nat → zF)) := (if (g 8) = 12 then some ((-1), g, F) else if (g 8) < 0 ∨ 12 ≤ ((g 8)).toNatClampNeg then none else zl (zu F 9 ((g 8)).toNatClampNeg (p1)) fun (F3 : Nat → zF) => zl (va_up g 8 (((g 8) + 1))) fun (g4 : zF) => some ((g4 8), g4, F3))
abbrev rm_X7_piece : Room := { frames := 0, cells := 0, slots := 0, locals := 0 }
set_option maxHeartbeats 4000000 in
set_option maxRecDepth 100000 in
theorem c_X7_piece (l : Launch) (dD : va_G) (cI cA : ClassId) (q : Nat → Nat) (g : zF) (F : Nat → zF) (p1 : Int32) (rv : Int32) (r_g : zF) (r_F : Nat → zF) (hsp : s_X7_piece g F p1 = some (rv, r_g, r_F)) : zMi l yX7_piece wsX7_piece rm_X7_piece dD cI cA [.ref (q 0), .int p1] (zQ cI q g F) (zQ cI q r_g r_F) rv := by
  refine zMi_of (cc := cX7_piece) (maxL := 2) (by decide) rfl (Nat.le_of_ble_eq_true rfl) ?_
  intro p e s m args below meth c A Q ls hx hb hml hown hts hK hA hP hD hl hret
  have hown : s.vm.findClass RX7 = some m.cls := hown
  have iX7 : ∀ w ∈ wsX70, w ∈ wsX7_piece := by decide +kernel
  have f142 := hts (.fieldLink RX7 142 "MeshFieldModel" "pieces" "I") (by decide +kernel)
  have f25 := hts (.fieldLink RX7 25 "MeshFieldModel" "told" "[I") (by decide +kernel)
  have hS : va_S A s.heap s.heap [] := va_S.rf
  have hl : lv_has ls 2 [(0, .ref (q 0)), (1, .int p1)] := hl
  unfold s_X7_piece at hsp
  refine lv_aload_n hx hb dX7_piece_0 rfl (lv_at hl 0 rfl) ?_
  refine va_get (D := dD) (ci := 7) (v := .int (g 8)) (C := RX7) (T := TX7) (N := 41) hx hb hts iX7 hown hK.1 hP 0 rfl rfl 8 (by decide) f142 (fun _ h9 => h9) rfl dX7_piece_1 ?_
  refine lv_bipush (v := 12) hx hb dX7_piece_4 (by decide) ?_
  refine lv_icmp_ne (tgt := 11) hx hb dX7_piece_6 (by decide) (fun c1 => ?_) (fun c1 => ?_)
  · have hsp := z_f c1 hsp
    refine lv_aload_n hx hb dX7_piece_11 rfl (lv_at hl 0 rfl) ?_
    refine va_get (D := dD) (ci := 7) (v := .ref (q 9)) (C := RX7) (T := TX7) (N := 41) hx hb hts iX7 hown hK.1 hP 0 rfl rfl 9 (by decide) f25 (fun _ h9 => h9) rfl dX7_piece_12 ?_
    refine lv_aload_n hx hb dX7_piece_15 rfl (lv_at hl 0 rfl) ?_
    refine va_get (D := dD) (ci := 7) (v := .int (g 8)) (C := RX7) (T := TX7) (N := 41) hx hb hts iX7 hown hK.1 hP 0 rfl rfl 8 (by decide) f142 (fun _ h9 => h9) rfl dX7_piece_16 ?_
    refine lv_iload_n hx hb dX7_piece_19 rfl (lv_at hl 1 rfl) ?_
    obtain ⟨h2, hsp⟩ := z_in hsp
    refine va_iast hx hb hK.1 hP hD hS 1 0 rfl rfl h2 dX7_piece_20 (fun H locs hP hD hS => ?_)
    obtain ⟨F3, eF3, hsp⟩ := z_lt hsp
    have hP : va_P dD vwCl (zQ cI q g F3) H := by rw [eF3]; exact hP
    have hD : va_D A (zQ cI q g F3) := by rw [eF3]; exact hD
    refine lv_aload_n hx hb dX7_piece_21 rfl (lv_at hl 0 rfl) ?_
    refine lv_dup hx hb dX7_piece_22 rfl ?_
    refine va_get (D := dD) (ci := 7) (v := .int (g 8)) (C := RX7) (T := TX7) (N := 41) hx hb hts iX7 hown hK.1 hP 0 rfl rfl 8 (by decide) f142 (fun _ h9 => h9) rfl dX7_piece_23 ?_
    refine lv_iconst (v := 1) hx hb dX7_piece_26 (by decide) ?_
    refine lv_iadd hx hb dX7_piece_27 ?_
    refine va_put (D := dD) (ci := 7) (v := .int ((g 8) + 1)) (ty := .int) (C := RX7) (T := TX7) (N := 41) hx hb hts iX7 tyX7 tyX7_ok nmX7 hown hK.1 hP hD hS 0 rfl rfl 8 (by decide) f142 (fun _ h9 => h9) rfl (by decide +kernel) rfl rfl (Nat.le_of_ble_eq_true rfl) dX7_piece_28 (fun H locs hP hD hS => ?_)
    obtain ⟨g4, eg4, hsp⟩ := z_lt hsp
    have hP : va_P dD vwCl (zQ cI q g4 F3) H := by rw [eg4]; exact hP
    have hD : va_D A (zQ cI q g4 F3) := by rw [eg4]; exact hD
    refine lv_aload_n hx hb dX7_piece_31 rfl (lv_at hl 0 rfl) ?_
    refine va_get (D := dD) (ci := 7) (v := .int (g4 8)) (C := RX7) (T := TX7) (N := 41) hx hb hts iX7 hown hK.1 hP 0 rfl rfl 8 (by decide) f142 (fun _ h9 => h9) rfl dX7_piece_32 ?_
    obtain ⟨rfl, rfl, rfl⟩ := z_i3 hsp
    exact hret _ _ ls 35 dX7_piece_35 rfl hP hD hS
  · have hsp := z_t c1 hsp
    refine lv_iconst (v := (-1)) hx hb dX7_piece_9 (by decide) ?_
    obtain ⟨rfl, rfl, rfl⟩ := z_i3 hsp
    exact hret _ _ ls 10 dX7_piece_10 rfl hP hD hS
def s_X7_rank_b4 (g : zF) (F : Nat → zF) : Nat → (Int32) → (Int32) → (Int32) → Option Int32
  | 0, _, _, _ => none
  | n4 + 1, lo1, lo2, lo3 => (if 12 ≤ lo3 then some (lo2) else if ((12 * lo1) + lo3) < 0 ∨ 144 ≤ (((12 * lo1) + lo3)).toNatClampNeg then none else (if ((F 14) (((12 * lo1) + lo3)).toNatClampNeg) = 0 then zl ((lo2 + 0)) fun (x4 : Int32) => zl (lo3 + 1) fun (x5 : Int32) => (s_X7_rank_b4 g F n4 (lo1) (x4) (x5)) else zl ((lo2 + 1)) fun (x6 : Int32) => zl (lo3 + 1) fun (x7 : Int32) => (s_X7_rank_b4 g F n4 (lo1) (x6) (x7))))
def s_X7_rank (g : zF) (F : Nat → zF) (p1 : Int32) : Option Int32 := (s_X7_rank_b4 g F 13 (p1) (0) (0))
abbrev rm_X7_rank : Room := { frames := 0, cells := 0, slots := 0, locals := 0 }
set_option maxHeartbeats 4000000 in
set_option maxRecDepth 100000 in
theorem c_X7_rank (l : Launch) (dD : va_G) (cI cA : ClassId) (q : Nat → Nat) (g : zF) (F : Nat → zF) (p1 : Int32) (rv : Int32) (hsp : s_X7_rank g F p1 = some rv) : zMi l yX7_rank wsX7_rank rm_X7_rank dD cI cA [.ref (q 0), .int p1] (zQ cI q g F) (zQ cI q g F) rv := by
  refine zMi_of (cc := cX7_rank) (maxL := 4) (by decide) rfl (Nat.le_of_ble_eq_true rfl) ?_
  intro p e s m args below meth c A Q ls hx hb hml hown hts hK hA hP hD hl hret
  have hown : s.vm.findClass RX7 = some m.cls := hown
  have iX7 : ∀ w ∈ wsX70, w ∈ wsX7_rank := by decide +kernel
  have f41 := hts (.fieldLink RX7 41 "MeshFieldModel" "mask" "[I") (by decide +kernel)
  have hS : va_S A s.heap s.heap [] := va_S.rf
  have hl : lv_has ls 4 [(0, .ref (q 0)), (1, .int p1)] := hl
  have K_4 : ∀ (nf : Nat) (H : Heap) (locs : List Loc) (ls : Array Slot) (lo1 : Int32) (lo2 : Int32) (lo3 : Int32), va_P dD vwCl (zQ cI q g F) H → va_D A (zQ cI q g F) → va_S A s.heap H locs → lv_has ls 4 [(0, .ref (q 0)), (1, .int lo1), (2, .int lo2), (3, .int lo3)] → s_X7_rank_b4 g F nf lo1 lo2 lo3 = some rv → W p l e rm_X7_rank s m args below meth c H locs 0 0 Q (F0 m 4 ls []) := by
    intro nf
    induction nf with
    | zero =>
      intro H locs ls lo1 lo2 lo3 hP hD hS hl hsp
      exact absurd (show (none : Option Int32) = some rv from hsp) (fun h => by cases h)
    | succ n4 ih4 =>
      intro H locs ls lo1 lo2 lo3 hP hD hS hl hsp
      rw [s_X7_rank_b4] at hsp
      refine lv_iload_n hx hb dX7_rank_4 rfl (lv_at hl 3 rfl) ?_
      refine lv_bipush (v := 12) hx hb dX7_rank_5 (by decide) ?_
      refine lv_icmp_ge (tgt := 38) hx hb dX7_rank_7 (by decide) (fun c1 => ?_) (fun c1 => ?_)
      · have hsp := z_t c1 hsp
        refine lv_iload_n hx hb dX7_rank_38 rfl (lv_at hl 2 rfl) ?_
        obtain rfl := Option.some.inj hsp
        exact hret _ _ ls 39 dX7_rank_39 rfl hP hD hS
      · have hsp := z_f c1 hsp
        refine lv_iload_n hx hb dX7_rank_10 rfl (lv_at hl 2 rfl) ?_
        refine lv_aload_n hx hb dX7_rank_11 rfl (lv_at hl 0 rfl) ?_
        refine va_get (D := dD) (ci := 7) (v := .ref (q 14)) (C := RX7) (T := TX7) (N := 41) hx hb hts iX7 hown hK.1 hP 0 rfl rfl 14 (by decide) f41 (fun _ h9 => h9) rfl dX7_rank_12 ?_
        refine lv_bipush (v := 12) hx hb dX7_rank_15 (by decide) ?_
        refine lv_iload_n hx hb dX7_rank_17 rfl (lv_at hl 1 rfl) ?_
        refine lv_imul hx hb dX7_rank_18 ?_
        refine lv_iload_n hx hb dX7_rank_19 rfl (lv_at hl 3 rfl) ?_
        refine lv_iadd hx hb dX7_rank_20 ?_
        obtain ⟨h2, hsp⟩ := z_in hsp
        refine va_iald hx hb hK.1 hP 6 0 rfl rfl h2 dX7_rank_21 ?_
        refine lv_if_eq (tgt := 29) hx hb dX7_rank_22 (by decide) (fun c3 => ?_) (fun c3 => ?_)
        · have hsp := z_t c3 hsp
          refine lv_iconst (v := 0) hx hb dX7_rank_29 (by decide) ?_
          refine lv_iadd hx hb dX7_rank_30 ?_
          obtain ⟨x4, ex4, hsp⟩ := z_lt hsp
          refine z_top ex4 ?_
          refine lv_istore_n (lv' := [(2, .int x4), (0, .ref (q 0)), (1, .int lo1), (3, .int lo3)]) hx hb dX7_rank_31 rfl hl (by decide) rfl (fun ls hl => ?_)
          obtain ⟨x5, ex5, hsp⟩ := z_lt hsp
          refine lv_iinc (v := x5) (lv' := [(3, .int x5), (2, .int x4), (0, .ref (q 0)), (1, .int lo1)]) hx hb dX7_rank_32 hl (k := 3) rfl (by rw [ex5]; rfl) (by decide) rfl (fun ls hl => ?_)
          refine lv_goto (tgt := 4) hx hb dX7_rank_35 (by decide) ?_
          exact ih4 _ _ ls (lo1) (x4) (x5) hP hD hS (lv_sub hl [2, 3, 1, 0] rfl) hsp
        · have hsp := z_f c3 hsp
          refine lv_iconst (v := 1) hx hb dX7_rank_25 (by decide) ?_
          refine lv_goto (tgt := 30) hx hb dX7_rank_26 (by decide) ?_
          refine lv_iadd hx hb dX7_rank_30 ?_
          obtain ⟨x6, ex6, hsp⟩ := z_lt hsp
          refine z_top ex6 ?_
          refine lv_istore_n (lv' := [(2, .int x6), (0, .ref (q 0)), (1, .int lo1), (3, .int lo3)]) hx hb dX7_rank_31 rfl hl (by decide) rfl (fun ls hl => ?_)
          obtain ⟨x7, ex7, hsp⟩ := z_lt hsp
          refine lv_iinc (v := x7) (lv' := [(3, .int x7), (2, .int x6), (0, .ref (q 0)), (1, .int lo1)]) hx hb dX7_rank_32 hl (k := 3) rfl (by rw [ex7]; rfl) (by decide) rfl (fun ls hl => ?_)
          refine lv_goto (tgt := 4) hx hb dX7_rank_35 (by decide) ?_
          exact ih4 _ _ ls (lo1) (x6) (x7) hP hD hS (lv_sub hl [2, 3, 1, 0] rfl) hsp
  unfold s_X7_rank at hsp
  refine lv_iconst (v := 0) hx hb dX7_rank_0 (by decide) ?_
  refine lv_istore_n (lv' := [(2, .int 0), (0, .ref (q 0)), (1, .int p1)]) hx hb dX7_rank_1 rfl hl (by decide) rfl (fun ls hl => ?_)
  refine lv_iconst (v := 0) hx hb dX7_rank_2 (by decide) ?_
  refine lv_istore_n (lv' := [(3, .int 0), (2, .int 0), (0, .ref (q 0)), (1, .int p1)]) hx hb dX7_rank_3 rfl hl (by decide) rfl (fun ls hl => ?_)
  exact K_4 13 _ _ ls (p1) (0) (0) hP hD hS (lv_sub hl [2, 3, 1, 0] rfl) hsp
def s_X7_isWhole (g : zF) (F : Nat → zF) (p1 : Int32) : Option Int32 := if p1 < 0 ∨ 12 ≤ (p1).toNatClampNeg then none else (if ((F 11) (p1).toNatClampNeg) ≤ 0 then some (0) else zb1 (s_X7_rank g F (p1)) fun (v3 : Int32) => if p1 < 0 ∨ 12 ≤ (p1).toNatClampNeg then none else (if v3 = ((F 12) (p1).toNatClampNeg) then some (1) else some (0)))
abbrev rm_X7_isWhole : Room := { frames := 1, cells := 0, slots := 0, locals := 23 }
set_option maxHeartbeats 4000000 in
set_option maxRecDepth 100000 in
theorem c_X7_isWhole (l : Launch) (dD : va_G) (cI cA : ClassId) (q : Nat → Nat) (g : zF) (F : Nat → zF) (p1 : Int32) (rv : Int32) (hsp : s_X7_isWhole g F p1 = some rv) : zMi l yX7_isWhole wsX7_isWhole rm_X7_isWhole dD cI cA [.ref (q 0), .int p1] (zQ cI q g F) (zQ cI q g F) rv := by
  refine zMi_of (cc := cX7_isWhole) (maxL := 2) (by decide) rfl (Nat.le_of_ble_eq_true rfl) ?_
  intro p e s m args below meth c A Q ls hx hb hml hown hts hK hA hP hD hl hret
  have hown : s.vm.findClass RX7 = some m.cls := hown
  have iX7 : ∀ w ∈ wsX70, w ∈ wsX7_isWhole := by decide +kernel
  have f32 := hts (.fieldLink RX7 32 "MeshFieldModel" "number" "[I") (by decide +kernel)
  have f35 := hts (.fieldLink RX7 35 "MeshFieldModel" "many" "[I") (by decide +kernel)
  have hS : va_S A s.heap s.heap [] := va_S.rf
  have hl : lv_has ls 2 [(0, .ref (q 0)), (1, .int p1)] := hl
  unfold s_X7_isWhole at hsp
  refine lv_aload_n hx hb dX7_isWhole_0 rfl (lv_at hl 0 rfl) ?_
  refine va_get (D := dD) (ci := 7) (v := .ref (q 11)) (C := RX7) (T := TX7) (N := 41) hx hb hts iX7 hown hK.1 hP 0 rfl rfl 11 (by decide) f32 (fun _ h9 => h9) rfl dX7_isWhole_1 ?_
  refine lv_iload_n hx hb dX7_isWhole_4 rfl (lv_at hl 1 rfl) ?_
  obtain ⟨h1, hsp⟩ := z_in hsp
  refine va_iald hx hb hK.1 hP 3 0 rfl rfl h1 dX7_isWhole_5 ?_
  refine lv_if_le (tgt := 27) hx hb dX7_isWhole_6 (by decide) (fun c2 => ?_) (fun c2 => ?_)
  · have hsp := z_t c2 hsp
    refine lv_iconst (v := 0) hx hb dX7_isWhole_27 (by decide) ?_
    obtain rfl := Option.some.inj hsp
    exact hret _ _ ls 28 dX7_isWhole_28 rfl hP hD hS
  · have hsp := z_f c2 hsp
    refine lv_aload_n hx hb dX7_isWhole_9 rfl (lv_at hl 0 rfl) ?_
    refine lv_iload_n hx hb dX7_isWhole_10 rfl (lv_at hl 1 rfl) ?_
    obtain ⟨v3, hc4, hsp⟩ := z_b1 hsp
    refine z_callVi ⟨hx, hb, hml, hown, hts⟩ hK (c_X7_rank l dD cI cA q g F (p1) v3 hc4) (cwV 1 hts gX7_isWhole_X7_rank rfl rfl rfl (by decide +kernel) ⟨Nat.le_of_ble_eq_true rfl, Nat.le_of_ble_eq_true rfl⟩) (zJ.full hP hD hS hA) hS 0 7 rfl rfl rfl rfl hl.1 rfl (Nat.le_of_ble_eq_true rfl) dX7_isWhole_11 ⟨Nat.zero_le _, Nat.zero_le _⟩ (fun H locs hP hD hS => ?_)
    refine lv_aload_n hx hb dX7_isWhole_14 rfl (lv_at hl 0 rfl) ?_
    refine va_get (D := dD) (ci := 7) (v := .ref (q 12)) (C := RX7) (T := TX7) (N := 41) hx hb hts iX7 hown hK.1 hP 0 rfl rfl 12 (by decide) f35 (fun _ h9 => h9) rfl dX7_isWhole_15 ?_
    refine lv_iload_n hx hb dX7_isWhole_18 rfl (lv_at hl 1 rfl) ?_
    obtain ⟨h5, hsp⟩ := z_in hsp
    refine va_iald hx hb hK.1 hP 4 0 rfl rfl h5 dX7_isWhole_19 ?_
    refine lv_icmp_ne (tgt := 27) hx hb dX7_isWhole_20 (by decide) (fun c6 => ?_) (fun c6 => ?_)
    · have hsp := z_f c6 hsp
      refine lv_iconst (v := 0) hx hb dX7_isWhole_27 (by decide) ?_
      obtain rfl := Option.some.inj hsp
      exact hret _ _ ls 28 dX7_isWhole_28 rfl hP hD hS
    · have hsp := z_t c6 hsp
      refine lv_iconst (v := 1) hx hb dX7_isWhole_23 (by decide) ?_
      refine lv_goto (tgt := 28) hx hb dX7_isWhole_24 (by decide) ?_
      obtain rfl := Option.some.inj hsp
      exact hret _ _ ls 28 dX7_isWhole_28 rfl hP hD hS
def s_X7_empty_b2 (g : zF) : Nat → (Nat → zF) → (Int32) → (Int32) → Option (Nat → zF)
  | 0, _, _, _ => none
  | n2 + 1, F_, lo1, lo2 => (if 12 ≤ lo2 then some (F_) else if ((12 * lo1) + lo2) < 0 ∨ 144 ≤ (((12 * lo1) + lo2)).toNatClampNeg then none else zl (zu F_ 14 (((12 * lo1) + lo2)).toNatClampNeg (0)) fun (F3 : Nat → zF) => if ((12 * lo1) + lo2) < 0 ∨ 144 ≤ (((12 * lo1) + lo2)).toNatClampNeg then none else zl (zu F3 15 (((12 * lo1) + lo2)).toNatClampNeg (0)) fun (F5 : Nat → zF) => zl (lo2 + 1) fun (x6 : Int32) => (s_X7_empty_b2 g n2 F5 (lo1) (x6)))
def s_X7_empty (g : zF) (F : Nat → zF) (p1 : Int32) : Option (Nat → zF) := (s_X7_empty_b2 g 13 F (p1) (0))
abbrev rm_X7_empty : Room := { frames := 0, cells := 0, slots := 0, locals := 0 }
set_option maxHeartbeats 4000000 in
set_option maxRecDepth 100000 in
theorem c_X7_empty (l : Launch) (dD : va_G) (cI cA : ClassId) (q : Nat → Nat) (g : zF) (F : Nat → zF) (p1 : Int32) (r_F : Nat → zF) (hsp : s_X7_empty g F p1 = some (r_F)) : zMv l yX7_empty wsX7_empty rm_X7_empty dD cI cA [.ref (q 0), .int p1] (zQ cI q g F) (zQ cI q g r_F) := by
  refine zMv_of (cc := cX7_empty) (maxL := 3) (by decide) rfl (Nat.le_of_ble_eq_true rfl) ?_
  intro p e s m args below meth c A Q ls hx hb hml hown hts hK hA hP hD hl hret
  have hown : s.vm.findClass RX7 = some m.cls := hown
  have iX7 : ∀ w ∈ wsX70, w ∈ wsX7_empty := by decide +kernel
  have f41 := hts (.fieldLink RX7 41 "MeshFieldModel" "mask" "[I") (by decide +kernel)
  have f44 := hts (.fieldLink RX7 44 "MeshFieldModel" "data" "[I") (by decide +kernel)
  have hS : va_S A s.heap s.heap [] := va_S.rf
  have hl : lv_has ls 3 [(0, .ref (q 0)), (1, .int p1)] := hl
  have K_2 : ∀ (nf : Nat) (H : Heap) (locs : List Loc) (ls : Array Slot) (F_ : Nat → zF) (lo1 : Int32) (lo2 : Int32), va_P dD vwCl (zQ cI q g F_) H → va_D A (zQ cI q g F_) → va_S A s.heap H locs → lv_has ls 3 [(0, .ref (q 0)), (1, .int lo1), (2, .int lo2)] → s_X7_empty_b2 g nf F_ lo1 lo2 = some (r_F) → W p l e rm_X7_empty s m args below meth c H locs 0 0 Q (F0 m 2 ls []) := by
    intro nf
    induction nf with
    | zero =>
      intro H locs ls F_ lo1 lo2 hP hD hS hl hsp
      exact absurd (show (none : Option (Nat → zF)) = some (r_F) from hsp) (fun h => by cases h)
    | succ n2 ih2 =>
      intro H locs ls F_ lo1 lo2 hP hD hS hl hsp
      rw [s_X7_empty_b2] at hsp
      refine lv_iload_n hx hb dX7_empty_2 rfl (lv_at hl 2 rfl) ?_
      refine lv_bipush (v := 12) hx hb dX7_empty_3 (by decide) ?_
      refine lv_icmp_ge (tgt := 38) hx hb dX7_empty_5 (by decide) (fun c1 => ?_) (fun c1 => ?_)
      · have hsp := z_t c1 hsp
        obtain rfl := Option.some.inj hsp
        exact hret _ _ ls 38 dX7_empty_38 hP hD hS
      · have hsp := z_f c1 hsp
        refine lv_aload_n hx hb dX7_empty_8 rfl (lv_at hl 0 rfl) ?_
        refine va_get (D := dD) (ci := 7) (v := .ref (q 14)) (C := RX7) (T := TX7) (N := 41) hx hb hts iX7 hown hK.1 hP 0 rfl rfl 14 (by decide) f41 (fun _ h9 => h9) rfl dX7_empty_9 ?_
        refine lv_bipush (v := 12) hx hb dX7_empty_12 (by decide) ?_
        refine lv_iload_n hx hb dX7_empty_14 rfl (lv_at hl 1 rfl) ?_
        refine lv_imul hx hb dX7_empty_15 ?_
        refine lv_iload_n hx hb dX7_empty_16 rfl (lv_at hl 2 rfl) ?_
        refine lv_iadd hx hb dX7_empty_17 ?_
        refine lv_iconst (v := 0) hx hb dX7_empty_18 (by decide) ?_
        obtain ⟨h2, hsp⟩ := z_in hsp
        refine va_iast hx hb hK.1 hP hD hS 6 0 rfl rfl h2 dX7_empty_19 (fun H locs hP hD hS => ?_)
        obtain ⟨F3, eF3, hsp⟩ := z_lt hsp
        have hP : va_P dD vwCl (zQ cI q g F3) H := by rw [eF3]; exact hP
        have hD : va_D A (zQ cI q g F3) := by rw [eF3]; exact hD
        refine lv_aload_n hx hb dX7_empty_20 rfl (lv_at hl 0 rfl) ?_
        refine va_get (D := dD) (ci := 7) (v := .ref (q 15)) (C := RX7) (T := TX7) (N := 41) hx hb hts iX7 hown hK.1 hP 0 rfl rfl 15 (by decide) f44 (fun _ h9 => h9) rfl dX7_empty_21 ?_
        refine lv_bipush (v := 12) hx hb dX7_empty_24 (by decide) ?_
        refine lv_iload_n hx hb dX7_empty_26 rfl (lv_at hl 1 rfl) ?_
        refine lv_imul hx hb dX7_empty_27 ?_
        refine lv_iload_n hx hb dX7_empty_28 rfl (lv_at hl 2 rfl) ?_
        refine lv_iadd hx hb dX7_empty_29 ?_
        refine lv_iconst (v := 0) hx hb dX7_empty_30 (by decide) ?_
        obtain ⟨h4, hsp⟩ := z_in hsp
        refine va_iast hx hb hK.1 hP hD hS 7 0 rfl rfl h4 dX7_empty_31 (fun H locs hP hD hS => ?_)
        obtain ⟨F5, eF5, hsp⟩ := z_lt hsp
        have hP : va_P dD vwCl (zQ cI q g F5) H := by rw [eF5]; exact hP
        have hD : va_D A (zQ cI q g F5) := by rw [eF5]; exact hD
        obtain ⟨x6, ex6, hsp⟩ := z_lt hsp
        refine lv_iinc (v := x6) (lv' := [(2, .int x6), (0, .ref (q 0)), (1, .int lo1)]) hx hb dX7_empty_32 hl (k := 2) rfl (by rw [ex6]; rfl) (by decide) rfl (fun ls hl => ?_)
        refine lv_goto (tgt := 2) hx hb dX7_empty_35 (by decide) ?_
        exact ih2 _ _ ls F5 (lo1) (x6) hP hD hS (lv_sub hl [1, 2, 0] rfl) hsp
  unfold s_X7_empty at hsp
  refine lv_iconst (v := 0) hx hb dX7_empty_0 (by decide) ?_
  refine lv_istore_n (lv' := [(2, .int 0), (0, .ref (q 0)), (1, .int p1)]) hx hb dX7_empty_1 rfl hl (by decide) rfl (fun ls hl => ?_)
  exact K_2 13 _ _ ls F (p1) (0) hP hD hS (lv_sub hl [1, 2, 0] rfl) hsp
def s_X7_sumOf_b4 (g : zF) (F : Nat → zF) : Nat → (Int32) → (Int32) → (Int32) → Option Int32
  | 0, _, _, _ => none
  | n4 + 1, lo1, lo2, lo3 => (if 12 ≤ lo3 then some (lo2) else if ((12 * lo1) + lo3) < 0 ∨ 144 ≤ (((12 * lo1) + lo3)).toNatClampNeg then none else zl ((lo2 + (((F 15) (((12 * lo1) + lo3)).toNatClampNeg) * (lo3 + 1)))) fun (x3 : Int32) => zl (lo3 + 1) fun (x4 : Int32) => (s_X7_sumOf_b4 g F n4 (lo1) (x3) (x4)))
def s_X7_sumOf (g : zF) (F : Nat → zF) (p1 : Int32) : Option Int32 := (s_X7_sumOf_b4 g F 13 (p1) (0) (0))
abbrev rm_X7_sumOf : Room := { frames := 0, cells := 0, slots := 0, locals := 0 }
set_option maxHeartbeats 4000000 in
set_option maxRecDepth 100000 in
theorem c_X7_sumOf (l : Launch) (dD : va_G) (cI cA : ClassId) (q : Nat → Nat) (g : zF) (F : Nat → zF) (p1 : Int32) (rv : Int32) (hsp : s_X7_sumOf g F p1 = some rv) : zMi l yX7_sumOf wsX7_sumOf rm_X7_sumOf dD cI cA [.ref (q 0), .int p1] (zQ cI q g F) (zQ cI q g F) rv := by
  refine zMi_of (cc := cX7_sumOf) (maxL := 4) (by decide) rfl (Nat.le_of_ble_eq_true rfl) ?_
  intro p e s m args below meth c A Q ls hx hb hml hown hts hK hA hP hD hl hret
  have hown : s.vm.findClass RX7 = some m.cls := hown
  have iX7 : ∀ w ∈ wsX70, w ∈ wsX7_sumOf := by decide +kernel
  have f44 := hts (.fieldLink RX7 44 "MeshFieldModel" "data" "[I") (by decide +kernel)
  have hS : va_S A s.heap s.heap [] := va_S.rf
  have hl : lv_has ls 4 [(0, .ref (q 0)), (1, .int p1)] := hl
  have K_4 : ∀ (nf : Nat) (H : Heap) (locs : List Loc) (ls : Array Slot) (lo1 : Int32) (lo2 : Int32) (lo3 : Int32), va_P dD vwCl (zQ cI q g F) H → va_D A (zQ cI q g F) → va_S A s.heap H locs → lv_has ls 4 [(0, .ref (q 0)), (1, .int lo1), (2, .int lo2), (3, .int lo3)] → s_X7_sumOf_b4 g F nf lo1 lo2 lo3 = some rv → W p l e rm_X7_sumOf s m args below meth c H locs 0 0 Q (F0 m 4 ls []) := by
    intro nf
    induction nf with
    | zero =>
      intro H locs ls lo1 lo2 lo3 hP hD hS hl hsp
      exact absurd (show (none : Option Int32) = some rv from hsp) (fun h => by cases h)
    | succ n4 ih4 =>
      intro H locs ls lo1 lo2 lo3 hP hD hS hl hsp
      rw [s_X7_sumOf_b4] at hsp
      refine lv_iload_n hx hb dX7_sumOf_4 rfl (lv_at hl 3 rfl) ?_
      refine lv_bipush (v := 12) hx hb dX7_sumOf_5 (by decide) ?_
      refine lv_icmp_ge (tgt := 34) hx hb dX7_sumOf_7 (by decide) (fun c1 => ?_) (fun c1 => ?_)
      · have hsp := z_t c1 hsp
        refine lv_iload_n hx hb dX7_sumOf_34 rfl (lv_at hl 2 rfl) ?_
        obtain rfl := Option.some.inj hsp
        exact hret _ _ ls 35 dX7_sumOf_35 rfl hP hD hS
      · have hsp := z_f c1 hsp
        refine lv_iload_n hx hb dX7_sumOf_10 rfl (lv_at hl 2 rfl) ?_
        refine lv_aload_n hx hb dX7_sumOf_11 rfl (lv_at hl 0 rfl) ?_
        refine va_get (D := dD) (ci := 7) (v := .ref (q 15)) (C := RX7) (T := TX7) (N := 41) hx hb hts iX7 hown hK.1 hP 0 rfl rfl 15 (by decide) f44 (fun _ h9 => h9) rfl dX7_sumOf_12 ?_
        refine lv_bipush (v := 12) hx hb dX7_sumOf_15 (by decide) ?_
        refine lv_iload_n hx hb dX7_sumOf_17 rfl (lv_at hl 1 rfl) ?_
        refine lv_imul hx hb dX7_sumOf_18 ?_
        refine lv_iload_n hx hb dX7_sumOf_19 rfl (lv_at hl 3 rfl) ?_
        refine lv_iadd hx hb dX7_sumOf_20 ?_
        obtain ⟨h2, hsp⟩ := z_in hsp
        refine va_iald hx hb hK.1 hP 7 0 rfl rfl h2 dX7_sumOf_21 ?_
        refine lv_iload_n hx hb dX7_sumOf_22 rfl (lv_at hl 3 rfl) ?_
        refine lv_iconst (v := 1) hx hb dX7_sumOf_23 (by decide) ?_
        refine lv_iadd hx hb dX7_sumOf_24 ?_
        refine lv_imul hx hb dX7_sumOf_25 ?_
        refine lv_iadd hx hb dX7_sumOf_26 ?_
        obtain ⟨x3, ex3, hsp⟩ := z_lt hsp
        refine z_top ex3 ?_
        refine lv_istore_n (lv' := [(2, .int x3), (0, .ref (q 0)), (1, .int lo1), (3, .int lo3)]) hx hb dX7_sumOf_27 rfl hl (by decide) rfl (fun ls hl => ?_)
        obtain ⟨x4, ex4, hsp⟩ := z_lt hsp
        refine lv_iinc (v := x4) (lv' := [(3, .int x4), (2, .int x3), (0, .ref (q 0)), (1, .int lo1)]) hx hb dX7_sumOf_28 hl (k := 3) rfl (by rw [ex4]; rfl) (by decide) rfl (fun ls hl => ?_)
        refine lv_goto (tgt := 4) hx hb dX7_sumOf_31 (by decide) ?_
        exact ih4 _ _ ls (lo1) (x3) (x4) hP hD hS (lv_sub hl [2, 3, 1, 0] rfl) hsp
  unfold s_X7_sumOf at hsp
  refine lv_iconst (v := 0) hx hb dX7_sumOf_0 (by decide) ?_
  refine lv_istore_n (lv' := [(2, .int 0), (0, .ref (q 0)), (1, .int p1)]) hx hb dX7_sumOf_1 rfl hl (by decide) rfl (fun ls hl => ?_)
  refine lv_iconst (v := 0) hx hb dX7_sumOf_2 (by decide) ?_
  refine lv_istore_n (lv' := [(3, .int 0), (2, .int 0), (0, .ref (q 0)), (1, .int p1)]) hx hb dX7_sumOf_3 rfl hl (by decide) rfl (fun ls hl => ?_)
  exact K_4 13 _ _ ls (p1) (0) (0) hP hD hS (lv_sub hl [2, 3, 1, 0] rfl) hsp
