def s_X0_has  (p1 : Int32) (p2 : Int32) : Option Int32 := (if ((zUsr p1 p2) &&& 1) = 0 then some (0) else some (1))
abbrev rm_X0_has : Room := { frames := 0, cells := 0, slots := 0, locals := 0 }
set_option maxHeartbeats 4000000 in
set_option maxRecDepth 100000 in
theorem c_X0_has (l : Launch) (dD : va_G) (cI cA : ClassId) (p1 : Int32) (p2 : Int32) (rv : Int32) (hsp : s_X0_has p1 p2 = some rv) : zMi l yX0_has wsX0_has rm_X0_has dD cI cA [.int p1, .int p2] ([]) ([]) rv := by
  refine zMi_of (cc := cX0_has) (maxL := 2) (by decide) rfl (Nat.le_of_ble_eq_true rfl) ?_
  intro p e s m args below meth c A Q ls hx hb hml hown hts hK hA hP hD hl hret
  have hown : s.vm.findClass RX0 = some m.cls := hown
  have hS : va_S A s.heap s.heap [] := va_S.rf
  have hl : lv_has ls 2 [(0, .int p1), (1, .int p2)] := hl
  unfold s_X0_has at hsp
  refine lv_iload_n hx hb dX0_has_0 rfl (lv_at hl 0 rfl) ?_
  refine lv_iload_n hx hb dX0_has_1 rfl (lv_at hl 1 rfl) ?_
  refine lv_iushr (v := (zUsr p1 p2)) hx hb dX0_has_2 rfl ?_
  refine lv_iconst (v := 1) hx hb dX0_has_3 (by decide) ?_
  refine lv_iand hx hb dX0_has_4 ?_
  refine lv_if_eq (tgt := 12) hx hb dX0_has_5 (by decide) (fun c1 => ?_) (fun c1 => ?_)
  · have hsp := z_t c1 hsp
    refine lv_iconst (v := 0) hx hb dX0_has_12 (by decide) ?_
    obtain rfl := Option.some.inj hsp
    exact hret _ _ ls 13 dX0_has_13 rfl hP hD hS
  · have hsp := z_f c1 hsp
    refine lv_iconst (v := 1) hx hb dX0_has_8 (by decide) ?_
    refine lv_goto (tgt := 13) hx hb dX0_has_9 (by decide) ?_
    obtain rfl := Option.some.inj hsp
    exact hret _ _ ls 13 dX0_has_13 rfl hP hD hS
def s_X0_headOf_b3  : Nat → (Int32) → (Int32) → Option Int32
  | 0, _, _ => none
  | n3 + 1, lo0, lo1 => (if lo1 < 0 then some ((-1)) else zb1 (s_X0_has (lo0) (lo1)) fun (v2 : Int32) => (if v2 = 0 then zl (lo1 + (-1)) fun (x5 : Int32) => (s_X0_headOf_b3  n3 (lo0) (x5)) else some (lo1)))
def s_X0_headOf  (p1 : Int32) : Option Int32 := (s_X0_headOf_b3  13 (p1) (11))
abbrev rm_X0_headOf : Room := { frames := 1, cells := 0, slots := 0, locals := 21 }
set_option maxHeartbeats 4000000 in
set_option maxRecDepth 100000 in
theorem c_X0_headOf (l : Launch) (dD : va_G) (cI cA : ClassId) (p1 : Int32) (rv : Int32) (hsp : s_X0_headOf p1 = some rv) : zMi l yX0_headOf wsX0_headOf rm_X0_headOf dD cI cA [.int p1] ([]) ([]) rv := by
  refine zMi_of (cc := cX0_headOf) (maxL := 2) (by decide) rfl (Nat.le_of_ble_eq_true rfl) ?_
  intro p e s m args below meth c A Q ls hx hb hml hown hts hK hA hP hD hl hret
  have hown : s.vm.findClass RX0 = some m.cls := hown
  have hS : va_S A s.heap s.heap [] := va_S.rf
  have hl : lv_has ls 2 [(0, .int p1)] := hl
  have K_3 : ∀ (nf : Nat) (H : Heap) (locs : List Loc) (ls : Array Slot) (lo0 : Int32) (lo1 : Int32), va_P dD vwCl ([]) H → va_D A ([]) → va_S A s.heap H locs → lv_has ls 2 [(0, .int lo0), (1, .int lo1)] → s_X0_headOf_b3  nf lo0 lo1 = some rv → W p l e rm_X0_headOf s m args below meth c H locs 0 0 Q (F0 m 3 ls []) := by
    intro nf
    induction nf with
    | zero =>
      intro H locs ls lo0 lo1 hP hD hS hl hsp
      exact absurd (show (none : Option Int32) = some rv from hsp) (fun h => by cases h)
    | succ n3 ih3 =>
      intro H locs ls lo0 lo1 hP hD hS hl hsp
      rw [s_X0_headOf_b3] at hsp
      refine lv_iload_n hx hb dX0_headOf_3 rfl (lv_at hl 1 rfl) ?_
      refine lv_if_lt (tgt := 23) hx hb dX0_headOf_4 (by decide) (fun c1 => ?_) (fun c1 => ?_)
      · have hsp := z_t c1 hsp
        refine lv_iconst (v := (-1)) hx hb dX0_headOf_23 (by decide) ?_
        obtain rfl := Option.some.inj hsp
        exact hret _ _ ls 24 dX0_headOf_24 rfl hP hD hS
      · have hsp := z_f c1 hsp
        refine lv_iload_n hx hb dX0_headOf_7 rfl (lv_at hl 0 rfl) ?_
        refine lv_iload_n hx hb dX0_headOf_8 rfl (lv_at hl 1 rfl) ?_
        obtain ⟨v2, hc3, hsp⟩ := z_b1 hsp
        refine z_callSi ⟨hx, hb, hml, hown, hts⟩ hK (c_X0_has l dD cI cA (lo0) (lo1) v2 hc3) (va_cwS 2 hts gX0_headOf_X0_has rfl rfl rfl (by decide +kernel) ⟨Nat.le_of_ble_eq_true rfl, Nat.le_of_ble_eq_true rfl⟩) (zJ.of (wc := []) (wc1 := []) (wr := []) (w2 := []) hP hD hS hA [] [] [] rfl rfl rfl rfl rfl rfl rfl) hS rfl hl.1 rfl (Nat.le_of_ble_eq_true rfl) dX0_headOf_9 ⟨Nat.zero_le _, Nat.zero_le _⟩ (fun H locs hP hD hS => ?_)
        refine lv_if_eq (tgt := 17) hx hb dX0_headOf_12 (by decide) (fun c4 => ?_) (fun c4 => ?_)
        · have hsp := z_t c4 hsp
          obtain ⟨x5, ex5, hsp⟩ := z_lt hsp
          refine lv_iinc (v := x5) (lv' := [(1, .int x5), (0, .int lo0)]) hx hb dX0_headOf_17 hl (k := 1) rfl (by rw [ex5]; rfl) (by decide) rfl (fun ls hl => ?_)
          refine lv_goto (tgt := 3) hx hb dX0_headOf_20 (by decide) ?_
          exact ih3 _ _ ls (lo0) (x5) hP hD hS (lv_sub hl [1, 0] rfl) hsp
        · have hsp := z_f c4 hsp
          refine lv_iload_n hx hb dX0_headOf_15 rfl (lv_at hl 1 rfl) ?_
          obtain rfl := Option.some.inj hsp
          exact hret _ _ ls 16 dX0_headOf_16 rfl hP hD hS
  unfold s_X0_headOf at hsp
  refine lv_bipush (v := 11) hx hb dX0_headOf_0 (by decide) ?_
  refine lv_istore_n (lv' := [(1, .int 11), (0, .int p1)]) hx hb dX0_headOf_2 rfl hl (by decide) rfl (fun ls hl => ?_)
  exact K_3 13 _ _ ls (p1) (11) hP hD hS (lv_sub hl [1, 0] rfl) hsp
def s_J7_fill_53178_b5 (nV : Nat) : Nat → (zF) → (Int32) → (Int32) → (Int32) → Option (zF)
  | 0, _, _, _, _ => none
  | n5 + 1, fv_, lo1, lo2, lo3 => (if lo3 ≤ lo2 then some (fv_) else if lo2 < 0 ∨ nV ≤ (lo2).toNatClampNeg then none else zl (upd fv_ (lo2).toNatClampNeg (lo1)) fun (fv4 : zF) => zl (lo2 + 1) fun (x5 : Int32) => (s_J7_fill_53178_b5 nV n5 fv4 (lo1) (x5) (lo3)))
def s_J7_fill_53178 (fv : zF) (nV : Nat) (p1 : Int32) : Option (zF) := zl ((nI nV)) fun (x1 : Int32) => (s_J7_fill_53178_b5 nV (nV + 1) fv (p1) (0) (x1))
abbrev rm_J7_fill_53178 : Room := { frames := 0, cells := 0, slots := 0, locals := 0 }
set_option maxHeartbeats 4000000 in
set_option maxRecDepth 100000 in
theorem c_J7_fill_53178 (l : Launch) (dD : va_G) (cI cA : ClassId) (aV : Nat) (nV : Nat) (fv : zF) (p1 : Int32) (r_fv : zF) (hsp : s_J7_fill_53178 fv nV p1 = some (r_fv)) : zMv l yJ7_fill_53178 wsJ7_fill_53178 rm_J7_fill_53178 dD cI cA [.ref aV, .int p1] ([zA cI aV nV fv]) ([zA cI aV nV r_fv]) := by
  refine zMv_of (cc := cJ7_fill_53178) (maxL := 4) (by decide) rfl (Nat.le_of_ble_eq_true rfl) ?_
  intro p e s m args below meth c A Q ls hx hb hml hown hts hK hA hP hD hl hret
  have hown : s.vm.findClass RJ7 = some m.cls := hown
  have hS : va_S A s.heap s.heap [] := va_S.rf
  have hl : lv_has ls 4 [(0, .ref aV), (1, .int p1)] := hl
  have K_5 : ∀ (nf : Nat) (H : Heap) (locs : List Loc) (ls : Array Slot) (fv_ : zF) (lo1 : Int32) (lo2 : Int32) (lo3 : Int32), va_P dD vwCl ([zA cI aV nV fv_]) H → va_D A ([zA cI aV nV fv_]) → va_S A s.heap H locs → lv_has ls 4 [(0, .ref aV), (1, .int lo1), (2, .int lo2), (3, .int lo3)] → s_J7_fill_53178_b5 nV nf fv_ lo1 lo2 lo3 = some (r_fv) → W p l e rm_J7_fill_53178 s m args below meth c H locs 0 0 Q (F0 m 5 ls []) := by
    intro nf
    induction nf with
    | zero =>
      intro H locs ls fv_ lo1 lo2 lo3 hP hD hS hl hsp
      exact absurd (show (none : Option (zF)) = some (r_fv) from hsp) (fun h => by cases h)
    | succ n5 ih5 =>
      intro H locs ls fv_ lo1 lo2 lo3 hP hD hS hl hsp
      rw [s_J7_fill_53178_b5] at hsp
      refine lv_iload_n hx hb dJ7_fill_53178_5 rfl (lv_at hl 2 rfl) ?_
      refine lv_iload_n hx hb dJ7_fill_53178_6 rfl (lv_at hl 3 rfl) ?_
      refine lv_icmp_ge (tgt := 20) hx hb dJ7_fill_53178_7 (by decide) (fun c2 => ?_) (fun c2 => ?_)
      · have hsp := z_t c2 hsp
        obtain rfl := Option.some.inj hsp
        exact hret _ _ ls 20 dJ7_fill_53178_20 hP hD hS
      · have hsp := z_f c2 hsp
        refine lv_aload_n hx hb dJ7_fill_53178_10 rfl (lv_at hl 0 rfl) ?_
        refine lv_iload_n hx hb dJ7_fill_53178_11 rfl (lv_at hl 2 rfl) ?_
        refine lv_iload_n hx hb dJ7_fill_53178_12 rfl (lv_at hl 1 rfl) ?_
        obtain ⟨h3, hsp⟩ := z_in hsp
        refine va_iast hx hb hK.1 hP hD hS 0 0 rfl rfl h3 dJ7_fill_53178_13 (fun H locs hP hD hS => ?_)
        obtain ⟨fv4, efv4, hsp⟩ := z_lt hsp
        have hP : va_P dD vwCl ([zA cI aV nV fv4]) H := by rw [efv4]; exact hP
        have hD : va_D A ([zA cI aV nV fv4]) := by rw [efv4]; exact hD
        obtain ⟨x5, ex5, hsp⟩ := z_lt hsp
        refine lv_iinc (v := x5) (lv' := [(2, .int x5), (0, .ref aV), (1, .int lo1), (3, .int lo3)]) hx hb dJ7_fill_53178_14 hl (k := 2) rfl (by rw [ex5]; rfl) (by decide) rfl (fun ls hl => ?_)
        refine lv_goto (tgt := 5) hx hb dJ7_fill_53178_17 (by decide) ?_
        exact ih5 _ _ ls fv4 (lo1) (x5) (lo3) hP hD hS (lv_sub hl [1, 2, 0, 3] rfl) hsp
  unfold s_J7_fill_53178 at hsp
  refine lv_iconst (v := 0) hx hb dJ7_fill_53178_0 (by decide) ?_
  refine lv_istore_n (lv' := [(2, .int 0), (0, .ref aV), (1, .int p1)]) hx hb dJ7_fill_53178_1 rfl hl (by decide) rfl (fun ls hl => ?_)
  refine lv_aload_n hx hb dJ7_fill_53178_2 rfl (lv_at hl 1 rfl) ?_
  refine va_alen (v := (nI nV)) hx hb hK.1 hP 0 0 rfl rfl rfl dJ7_fill_53178_3 ?_
  obtain ⟨x1, ex1, hsp⟩ := z_lt hsp
  refine z_top ex1 ?_
  refine lv_istore_n (lv' := [(3, .int x1), (2, .int 0), (0, .ref aV), (1, .int p1)]) hx hb dJ7_fill_53178_4 rfl hl (by decide) rfl (fun ls hl => ?_)
  exact K_5 (nV + 1) _ _ ls fv (p1) (0) (x1) hP hD hS (lv_sub hl [2, 3, 1, 0] rfl) hsp
def s_X1_below (gD : zF) (p1 : Int32) : Option (Int32 × (zF)) := zl (va_up gD 0 ((((gD 0) * 1103515245) + 12345))) fun (gD1 : zF) => (if 1 ≤ p1 then if p1 = 0 then none else some ((zRm (zUsr (gD1 0) 16) p1), gD1) else some (0, gD1))
abbrev rm_X1_below : Room := { frames := 0, cells := 0, slots := 0, locals := 0 }
set_option maxHeartbeats 4000000 in
set_option maxRecDepth 100000 in
theorem c_X1_below (l : Launch) (dD : va_G) (cI cA : ClassId) (aD : Nat) (gD : zF) (p1 : Int32) (rv : Int32) (r_gD : zF) (hsp : s_X1_below gD p1 = some (rv, r_gD)) : zMi l yX1_below wsX1_below rm_X1_below dD cI cA [.ref aD, .int p1] ([zD aD gD]) ([zD aD r_gD]) rv := by
  refine zMi_of (cc := cX1_below) (maxL := 2) (by decide) rfl (Nat.le_of_ble_eq_true rfl) ?_
  intro p e s m args below meth c A Q ls hx hb hml hown hts hK hA hP hD hl hret
  have hown : s.vm.findClass RX1 = some m.cls := hown
  have iX1 : ∀ w ∈ wsX10, w ∈ wsX1_below := by decide +kernel
  have f7 := hts (.fieldLink RX1 7 "MeshField$Draws" "state" "I") (by decide +kernel)
  have hS : va_S A s.heap s.heap [] := va_S.rf
  have hl : lv_has ls 2 [(0, .ref aD), (1, .int p1)] := hl
  unfold s_X1_below at hsp
  refine lv_aload_n hx hb dX1_below_0 rfl (lv_at hl 0 rfl) ?_
  refine lv_aload_n hx hb dX1_below_1 rfl (lv_at hl 0 rfl) ?_
  refine va_get (D := dD) (ci := 1) (v := .int (gD 0)) (C := RX1) (T := TX1) (N := 1) hx hb hts iX1 hown hK.1 hP 0 rfl rfl 0 (by decide) f7 (fun _ h9 => h9) rfl dX1_below_2 ?_
  refine lv_ldc (v := 1103515245) hx hb hown (hts (.constant RX1 13 1103515245) (by decide +kernel)) dX1_below_5 ?_
  refine lv_imul hx hb dX1_below_7 ?_
  refine lv_sipush (v := 12345) hx hb dX1_below_8 (by decide) ?_
  refine lv_iadd hx hb dX1_below_11 ?_
  refine va_put (D := dD) (ci := 1) (v := .int (((gD 0) * 1103515245) + 12345)) (ty := .int) (C := RX1) (T := TX1) (N := 1) hx hb hts iX1 tyX1 tyX1_ok nmX1 hown hK.1 hP hD hS 0 rfl rfl 0 (by decide) f7 (fun _ h9 => h9) rfl (by decide +kernel) rfl rfl (Nat.le_of_ble_eq_true rfl) dX1_below_12 (fun H locs hP hD hS => ?_)
  obtain ⟨gD1, egD1, hsp⟩ := z_lt hsp
  have hP : va_P dD vwCl ([zD aD gD1]) H := by rw [egD1]; exact hP
  have hD : va_D A ([zD aD gD1]) := by rw [egD1]; exact hD
  refine lv_iload_n hx hb dX1_below_15 rfl (lv_at hl 1 rfl) ?_
  refine lv_iconst (v := 1) hx hb dX1_below_16 (by decide) ?_
  refine lv_icmp_ge (tgt := 24) hx hb dX1_below_17 (by decide) (fun c2 => ?_) (fun c2 => ?_)
  · have hsp := z_t c2 hsp
    refine lv_aload_n hx hb dX1_below_24 rfl (lv_at hl 0 rfl) ?_
    refine va_get (D := dD) (ci := 1) (v := .int (gD1 0)) (C := RX1) (T := TX1) (N := 1) hx hb hts iX1 hown hK.1 hP 0 rfl rfl 0 (by decide) f7 (fun _ h9 => h9) rfl dX1_below_25 ?_
    refine lv_bipush (v := 16) hx hb dX1_below_28 (by decide) ?_
    refine lv_iushr (v := (zUsr (gD1 0) 16)) hx hb dX1_below_30 rfl ?_
    refine lv_iload_n hx hb dX1_below_31 rfl (lv_at hl 1 rfl) ?_
    obtain ⟨h3, hsp⟩ := z_nz hsp
    refine lv_irem hx hb dX1_below_32 h3 ?_
    refine z_top (y := (zRm (zUsr (gD1 0) 16) p1)) rfl ?_
    obtain ⟨rfl, rfl⟩ := z_i2 hsp
    exact hret _ _ ls 33 dX1_below_33 rfl hP hD hS
  · have hsp := z_f c2 hsp
    refine lv_iconst (v := 0) hx hb dX1_below_20 (by decide) ?_
    refine lv_goto (tgt := 33) hx hb dX1_below_21 (by decide) ?_
    obtain ⟨rfl, rfl⟩ := z_i2 hsp
    exact hret _ _ ls 33 dX1_below_33 rfl hP hD hS
def s_X2_begin (gI : zF) (gD : zF) (p1 : Int32) (p2 : Int32) : Option ((zF) × (zF)) := zl (va_up gI 0 (p1)) fun (gI1 : zF) => zl (va_up gI1 1 (p2)) fun (gI2 : zF) => zl (va_up gI2 3 (0)) fun (gI3 : zF) => zb2 (s_X1_below gD ((p1 - (p1 / 2)))) fun (v4 : Int32) (gD5 : zF) => zl (va_up gI3 2 (((p2 + (p1 / 2)) + v4))) fun (gI7 : zF) => some (gI7, gD5)
abbrev rm_X2_begin : Room := { frames := 1, cells := 0, slots := 0, locals := 21 }
set_option maxHeartbeats 4000000 in
set_option maxRecDepth 100000 in
theorem c_X2_begin (l : Launch) (dD : va_G) (cI cA : ClassId) (q : Nat → Nat) (aD : Nat) (gI : zF) (gD : zF) (p1 : Int32) (p2 : Int32) (r_gI : zF) (r_gD : zF) (hsp : s_X2_begin gI gD p1 p2 = some (r_gI, r_gD)) : zMv l yX2_begin wsX2_begin rm_X2_begin dD cI cA [.ref (q 4), .int p1, .int p2, .ref aD] ([zI q gI, zD aD gD]) ([zI q r_gI, zD aD r_gD]) := by
  refine zMv_of (cc := cX2_begin) (maxL := 4) (by decide) rfl (Nat.le_of_ble_eq_true rfl) ?_
  intro p e s m args below meth c A Q ls hx hb hml hown hts hK hA hP hD hl hret
  have hown : s.vm.findClass RX2 = some m.cls := hown
  have iX2 : ∀ w ∈ wsX20, w ∈ wsX2_begin := by decide +kernel
  have f7 := hts (.fieldLink RX2 7 "MeshField$Interval" "span" "I") (by decide +kernel)
  have f13 := hts (.fieldLink RX2 13 "MeshField$Interval" "began" "I") (by decide +kernel)
  have f16 := hts (.fieldLink RX2 16 "MeshField$Interval" "heard" "I") (by decide +kernel)
  have f25 := hts (.fieldLink RX2 25 "MeshField$Interval" "tellsAt" "I") (by decide +kernel)
  have hS : va_S A s.heap s.heap [] := va_S.rf
  have hl : lv_has ls 4 [(0, .ref (q 4)), (1, .int p1), (2, .int p2), (3, .ref aD)] := hl
  unfold s_X2_begin at hsp
  refine lv_aload_n hx hb dX2_begin_0 rfl (lv_at hl 0 rfl) ?_
  refine lv_iload_n hx hb dX2_begin_1 rfl (lv_at hl 1 rfl) ?_
  refine va_put (D := dD) (ci := 2) (v := .int p1) (ty := .int) (C := RX2) (T := TX2) (N := 4) hx hb hts iX2 tyX2 tyX2_ok nmX2 hown hK.1 hP hD hS 0 rfl rfl 0 (by decide) f7 (fun _ h9 => h9) rfl (by decide +kernel) rfl rfl (Nat.le_of_ble_eq_true rfl) dX2_begin_2 (fun H locs hP hD hS => ?_)
  obtain ⟨gI1, egI1, hsp⟩ := z_lt hsp
  have hP : va_P dD vwCl ([zI q gI1, zD aD gD]) H := by rw [egI1]; exact hP
  have hD : va_D A ([zI q gI1, zD aD gD]) := by rw [egI1]; exact hD
  refine lv_aload_n hx hb dX2_begin_5 rfl (lv_at hl 0 rfl) ?_
  refine lv_iload_n hx hb dX2_begin_6 rfl (lv_at hl 2 rfl) ?_
  refine va_put (D := dD) (ci := 2) (v := .int p2) (ty := .int) (C := RX2) (T := TX2) (N := 4) hx hb hts iX2 tyX2 tyX2_ok nmX2 hown hK.1 hP hD hS 0 rfl rfl 1 (by decide) f13 (fun _ h9 => h9) rfl (by decide +kernel) rfl rfl (Nat.le_of_ble_eq_true rfl) dX2_begin_7 (fun H locs hP hD hS => ?_)
  obtain ⟨gI2, egI2, hsp⟩ := z_lt hsp
  have hP : va_P dD vwCl ([zI q gI2, zD aD gD]) H := by rw [egI2]; exact hP
  have hD : va_D A ([zI q gI2, zD aD gD]) := by rw [egI2]; exact hD
  refine lv_aload_n hx hb dX2_begin_10 rfl (lv_at hl 0 rfl) ?_
  refine lv_iconst (v := 0) hx hb dX2_begin_11 (by decide) ?_
  refine va_put (D := dD) (ci := 2) (v := .int 0) (ty := .int) (C := RX2) (T := TX2) (N := 4) hx hb hts iX2 tyX2 tyX2_ok nmX2 hown hK.1 hP hD hS 0 rfl rfl 3 (by decide) f16 (fun _ h9 => h9) rfl (by decide +kernel) rfl rfl (Nat.le_of_ble_eq_true rfl) dX2_begin_12 (fun H locs hP hD hS => ?_)
  obtain ⟨gI3, egI3, hsp⟩ := z_lt hsp
  have hP : va_P dD vwCl ([zI q gI3, zD aD gD]) H := by rw [egI3]; exact hP
  have hD : va_D A ([zI q gI3, zD aD gD]) := by rw [egI3]; exact hD
  refine lv_aload_n hx hb dX2_begin_15 rfl (lv_at hl 0 rfl) ?_
  refine lv_iload_n hx hb dX2_begin_16 rfl (lv_at hl 2 rfl) ?_
  refine lv_iload_n hx hb dX2_begin_17 rfl (lv_at hl 1 rfl) ?_
  refine lv_iconst (v := 2) hx hb dX2_begin_18 (by decide) ?_
  refine lv_idiv hx hb dX2_begin_19 (by decide) ?_
  refine lv_iadd hx hb dX2_begin_20 ?_
  refine lv_aload_n hx hb dX2_begin_21 rfl (lv_at hl 3 rfl) ?_
  refine lv_iload_n hx hb dX2_begin_22 rfl (lv_at hl 1 rfl) ?_
  refine lv_iload_n hx hb dX2_begin_23 rfl (lv_at hl 1 rfl) ?_
  refine lv_iconst (v := 2) hx hb dX2_begin_24 (by decide) ?_
  refine lv_idiv hx hb dX2_begin_25 (by decide) ?_
  refine lv_isub hx hb dX2_begin_26 ?_
  obtain ⟨v4, gD5, hc6, hsp⟩ := z_b2 hsp
  refine z_callVi ⟨hx, hb, hml, hown, hts⟩ hK (c_X1_below l dD cI cA aD gD ((p1 - (p1 / 2))) v4 gD5 hc6) (cwV 1 hts gX2_begin_X1_below rfl rfl rfl (by decide +kernel) ⟨Nat.le_of_ble_eq_true rfl, Nat.le_of_ble_eq_true rfl⟩) (zJ.of (wc := [zD aD gD]) (wc1 := [zD aD gD5]) (wr := [zI q gI3]) (w2 := [zI q gI3, zD aD gD5]) hP hD hS hA [1] [0] [0, 1] rfl rfl rfl rfl rfl rfl rfl) hS 0 1 rfl rfl rfl rfl hl.1 rfl (Nat.le_of_ble_eq_true rfl) dX2_begin_27 ⟨Nat.zero_le _, Nat.zero_le _⟩ (fun H locs hP hD hS => ?_)
  refine lv_iadd hx hb dX2_begin_30 ?_
  refine va_put (D := dD) (ci := 2) (v := .int ((p2 + (p1 / 2)) + v4)) (ty := .int) (C := RX2) (T := TX2) (N := 4) hx hb hts iX2 tyX2 tyX2_ok nmX2 hown hK.1 hP hD hS 0 rfl rfl 2 (by decide) f25 (fun _ h9 => h9) rfl (by decide +kernel) rfl rfl (Nat.le_of_ble_eq_true rfl) dX2_begin_31 (fun H locs hP hD hS => ?_)
  obtain ⟨gI7, egI7, hsp⟩ := z_lt hsp
  have hP : va_P dD vwCl ([zI q gI7, zD aD gD5]) H := by rw [egI7]; exact hP
  have hD : va_D A ([zI q gI7, zD aD gD5]) := by rw [egI7]; exact hD
  obtain ⟨rfl, rfl⟩ := z_i2 hsp
  exact hret _ _ ls 34 dX2_begin_34 hP hD hS
def s_X3_isSent (gH : zF) : Option Int32 := (if (gH 0) = 0 then some (0) else some (1))
abbrev rm_X3_isSent : Room := { frames := 0, cells := 0, slots := 0, locals := 0 }
set_option maxHeartbeats 4000000 in
set_option maxRecDepth 100000 in
theorem c_X3_isSent (l : Launch) (dD : va_G) (cI cA : ClassId) (aH : Nat) (gH : zF) (rv : Int32) (hsp : s_X3_isSent gH = some rv) : zMi l yX3_isSent wsX3_isSent rm_X3_isSent dD cI cA [.ref aH] ([zL aH gH]) ([zL aH gH]) rv := by
  refine zMi_of (cc := cX3_isSent) (maxL := 1) (by decide) rfl (Nat.le_of_ble_eq_true rfl) ?_
  intro p e s m args below meth c A Q ls hx hb hml hown hts hK hA hP hD hl hret
  have hown : s.vm.findClass RX3 = some m.cls := hown
  have iX3 : ∀ w ∈ wsX30, w ∈ wsX3_isSent := by decide +kernel
  have f7 := hts (.fieldLink RX3 7 "MeshField$Letter" "kind" "I") (by decide +kernel)
  have hS : va_S A s.heap s.heap [] := va_S.rf
  have hl : lv_has ls 1 [(0, .ref aH)] := hl
  unfold s_X3_isSent at hsp
  refine lv_aload_n hx hb dX3_isSent_0 rfl (lv_at hl 0 rfl) ?_
  refine va_get (D := dD) (ci := 3) (v := .int (gH 0)) (C := RX3) (T := TX3) (N := 9) hx hb hts iX3 hown hK.1 hP 0 rfl rfl 0 (by decide) f7 (fun _ h9 => h9) rfl dX3_isSent_1 ?_
  refine lv_if_eq (tgt := 11) hx hb dX3_isSent_4 (by decide) (fun c1 => ?_) (fun c1 => ?_)
  · have hsp := z_t c1 hsp
    refine lv_iconst (v := 0) hx hb dX3_isSent_11 (by decide) ?_
    obtain rfl := Option.some.inj hsp
    exact hret _ _ ls 12 dX3_isSent_12 rfl hP hD hS
  · have hsp := z_f c1 hsp
    refine lv_iconst (v := 1) hx hb dX3_isSent_7 (by decide) ?_
    refine lv_goto (tgt := 12) hx hb dX3_isSent_8 (by decide) ?_
    obtain rfl := Option.some.inj hsp
    exact hret _ _ ls 12 dX3_isSent_12 rfl hP hD hS
