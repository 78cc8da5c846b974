def s_X7_greatestKept_b4 (g : zF) (F : Nat → zF) : Nat → (Int32) → (Int32) → Option Int32
  | 0, _, _ => none
  | n4 + 1, lo1, lo2 => (if (g 5) ≤ lo2 then some (lo1) else if lo2 < 0 ∨ 12 ≤ (lo2).toNatClampNeg then none else (if ((F 11) (lo2).toNatClampNeg) ≤ lo1 then zl (lo2 + 1) fun (x4 : Int32) => (s_X7_greatestKept_b4 g F n4 (lo1) (x4)) else if lo2 < 0 ∨ 12 ≤ (lo2).toNatClampNeg then none else zl (((F 11) (lo2).toNatClampNeg)) fun (x6 : Int32) => zl (lo2 + 1) fun (x7 : Int32) => (s_X7_greatestKept_b4 g F n4 (x6) (x7))))
def s_X7_greatestKept (g : zF) (F : Nat → zF) : Option Int32 := (s_X7_greatestKept_b4 g F 13 (0) (0))
abbrev rm_X7_greatestKept : Room := { frames := 0, cells := 0, slots := 0, locals := 0 }
set_option maxHeartbeats 4000000 in
set_option maxRecDepth 100000 in
theorem c_X7_greatestKept (l : Launch) (dD : va_G) (cI cA : ClassId) (q : Nat → Nat) (g : zF) (F : Nat → zF) (rv : Int32) (hsp : s_X7_greatestKept g F = some rv) : zMi l yX7_greatestKept wsX7_greatestKept rm_X7_greatestKept dD cI cA [.ref (q 0)] (zQ cI q g F) (zQ cI q g F) rv := by
  refine zMi_of (cc := cX7_greatestKept) (maxL := 3) (by decide) rfl (Nat.le_of_ble_eq_true rfl) ?_
  intro p e s m args below meth c A Q ls hx hb hml hown hts hK hA hP hD hl hret
  have hown : s.vm.findClass RX7 = some m.cls := hown
  have iX7 : ∀ w ∈ wsX70, w ∈ wsX7_greatestKept := by decide +kernel
  have f119 := hts (.fieldLink RX7 119 "MeshFieldModel" "machines" "I") (by decide +kernel)
  have f32 := hts (.fieldLink RX7 32 "MeshFieldModel" "number" "[I") (by decide +kernel)
  have hS : va_S A s.heap s.heap [] := va_S.rf
  have hl : lv_has ls 3 [(0, .ref (q 0))] := hl
  have K_4 : ∀ (nf : Nat) (H : Heap) (locs : List Loc) (ls : Array Slot) (lo1 : Int32) (lo2 : Int32), va_P dD vwCl (zQ cI q g F) H → va_D A (zQ cI q g F) → va_S A s.heap H locs → lv_has ls 3 [(0, .ref (q 0)), (1, .int lo1), (2, .int lo2)] → s_X7_greatestKept_b4 g F nf lo1 lo2 = some rv → W p l e rm_X7_greatestKept s m args below meth c H locs 0 0 Q (F0 m 4 ls []) := by
    intro nf
    induction nf with
    | zero =>
      intro H locs ls lo1 lo2 hP hD hS hl hsp
      exact absurd (show (none : Option Int32) = some rv from hsp) (fun h => by cases h)
    | succ n4 ih4 =>
      intro H locs ls lo1 lo2 hP hD hS hl hsp
      rw [s_X7_greatestKept_b4] at hsp
      refine lv_iload_n hx hb dX7_greatestKept_4 rfl (lv_at hl 2 rfl) ?_
      refine lv_aload_n hx hb dX7_greatestKept_5 rfl (lv_at hl 0 rfl) ?_
      refine va_get (D := dD) (ci := 7) (v := .int (g 5)) (C := RX7) (T := TX7) (N := 41) hx hb hts iX7 hown hK.1 hP 0 rfl rfl 5 (by decide) f119 (fun _ h9 => h9) rfl dX7_greatestKept_6 ?_
      refine lv_icmp_ge (tgt := 35) hx hb dX7_greatestKept_9 (by decide) (fun c1 => ?_) (fun c1 => ?_)
      · have hsp := z_t c1 hsp
        refine lv_iload_n hx hb dX7_greatestKept_35 rfl (lv_at hl 1 rfl) ?_
        obtain rfl := Option.some.inj hsp
        exact hret _ _ ls 36 dX7_greatestKept_36 rfl hP hD hS
      · have hsp := z_f c1 hsp
        refine lv_aload_n hx hb dX7_greatestKept_12 rfl (lv_at hl 0 rfl) ?_
        refine va_get (D := dD) (ci := 7) (v := .ref (q 11)) (C := RX7) (T := TX7) (N := 41) hx hb hts iX7 hown hK.1 hP 0 rfl rfl 11 (by decide) f32 (fun _ h9 => h9) rfl dX7_greatestKept_13 ?_
        refine lv_iload_n hx hb dX7_greatestKept_16 rfl (lv_at hl 2 rfl) ?_
        obtain ⟨h2, hsp⟩ := z_in hsp
        refine va_iald hx hb hK.1 hP 3 0 rfl rfl h2 dX7_greatestKept_17 ?_
        refine lv_iload_n hx hb dX7_greatestKept_18 rfl (lv_at hl 1 rfl) ?_
        refine lv_icmp_le (tgt := 29) hx hb dX7_greatestKept_19 (by decide) (fun c3 => ?_) (fun c3 => ?_)
        · have hsp := z_t c3 hsp
          obtain ⟨x4, ex4, hsp⟩ := z_lt hsp
          refine lv_iinc (v := x4) (lv' := [(2, .int x4), (0, .ref (q 0)), (1, .int lo1)]) hx hb dX7_greatestKept_29 hl (k := 2) rfl (by rw [ex4]; rfl) (by decide) rfl (fun ls hl => ?_)
          refine lv_goto (tgt := 4) hx hb dX7_greatestKept_32 (by decide) ?_
          exact ih4 _ _ ls (lo1) (x4) hP hD hS (lv_sub hl [1, 2, 0] rfl) hsp
        · have hsp := z_f c3 hsp
          refine lv_aload_n hx hb dX7_greatestKept_22 rfl (lv_at hl 0 rfl) ?_
          refine va_get (D := dD) (ci := 7) (v := .ref (q 11)) (C := RX7) (T := TX7) (N := 41) hx hb hts iX7 hown hK.1 hP 0 rfl rfl 11 (by decide) f32 (fun _ h9 => h9) rfl dX7_greatestKept_23 ?_
          refine lv_iload_n hx hb dX7_greatestKept_26 rfl (lv_at hl 2 rfl) ?_
          obtain ⟨h5, hsp⟩ := z_in hsp
          refine va_iald hx hb hK.1 hP 3 0 rfl rfl h5 dX7_greatestKept_27 ?_
          obtain ⟨x6, ex6, hsp⟩ := z_lt hsp
          refine z_top ex6 ?_
          refine lv_istore_n (lv' := [(1, .int x6), (0, .ref (q 0)), (2, .int lo2)]) hx hb dX7_greatestKept_28 rfl hl (by decide) rfl (fun ls hl => ?_)
          obtain ⟨x7, ex7, hsp⟩ := z_lt hsp
          refine lv_iinc (v := x7) (lv' := [(2, .int x7), (1, .int x6), (0, .ref (q 0))]) hx hb dX7_greatestKept_29 hl (k := 2) rfl (by rw [ex7]; rfl) (by decide) rfl (fun ls hl => ?_)
          refine lv_goto (tgt := 4) hx hb dX7_greatestKept_32 (by decide) ?_
          exact ih4 _ _ ls (x6) (x7) hP hD hS (lv_sub hl [2, 1, 0] rfl) hsp
  unfold s_X7_greatestKept at hsp
  refine lv_iconst (v := 0) hx hb dX7_greatestKept_0 (by decide) ?_
  refine lv_istore_n (lv' := [(1, .int 0), (0, .ref (q 0))]) hx hb dX7_greatestKept_1 rfl hl (by decide) rfl (fun ls hl => ?_)
  refine lv_iconst (v := 0) hx hb dX7_greatestKept_2 (by decide) ?_
  refine lv_istore_n (lv' := [(2, .int 0), (1, .int 0), (0, .ref (q 0))]) hx hb dX7_greatestKept_3 rfl hl (by decide) rfl (fun ls hl => ?_)
  exact K_4 13 _ _ ls (0) (0) hP hD hS (lv_sub hl [2, 1, 0] rfl) hsp
def s_X7_look_b35 (F : Nat → zF) : Nat → (zF) → (Int32) → (Int32) → (Int32) → Option (zF)
  | 0, _, _, _, _ => none
  | n35 + 1, g_, lo1, lo2, lo3 => (if (g_ 5) ≤ lo3 then (if lo2 = 0 then some (g_) else (if 0 ≤ (g_ 30) then some (g_) else zl (va_up g_ 30 ((g_ 6))) fun (g8 : zF) => some (g8))) else (if lo2 = 0 then zl (lo3 + 1) fun (x10 : Int32) => (s_X7_look_b35 F n35 g_ (lo1) (0) (x10)) else if lo3 < 0 ∨ 12 ≤ (lo3).toNatClampNeg then none else (if ((F 11) (lo3).toNatClampNeg) = lo1 then zb1 (s_X7_isWhole g_ F (lo3)) fun (v14 : Int32) => (if v14 = 0 then zl (lo3 + 1) fun (x17 : Int32) => (s_X7_look_b35 F n35 g_ (lo1) (0) (x17)) else zl (lo3 + 1) fun (x18 : Int32) => (s_X7_look_b35 F n35 g_ (lo1) (1) (x18))) else zl (lo3 + 1) fun (x13 : Int32) => (s_X7_look_b35 F n35 g_ (lo1) (0) (x13)))))
def s_X7_look_b23 (F : Nat → zF) (g_ : zF) (lo1 : Int32) : Option (zF) := (if lo1 ≤ 0 then (s_X7_look_b35 F 13 g_ (lo1) (0) (0)) else (s_X7_look_b35 F 13 g_ (lo1) (1) (0)))
def s_X7_look (g : zF) (F : Nat → zF) : Option (zF) := zb1 (s_X7_greatestKept g F) fun (v1 : Int32) => (if v1 ≤ (g 29) then (s_X7_look_b23 F g (v1)) else zl (va_up g 29 (v1)) fun (g19 : zF) => zl (va_up g19 30 ((-1))) fun (g20 : zF) => (s_X7_look_b23 F g20 (v1)))
abbrev rm_X7_look : Room := { frames := 2, cells := 0, slots := 0, locals := 44 }
set_option maxHeartbeats 4000000 in
set_option maxRecDepth 100000 in
theorem c_X7_look (l : Launch) (dD : va_G) (cI cA : ClassId) (q : Nat → Nat) (g : zF) (F : Nat → zF) (r_g : zF) (hsp : s_X7_look g F = some (r_g)) : zMv l yX7_look wsX7_look rm_X7_look dD cI cA [.ref (q 0)] (zQ cI q g F) (zQ cI q r_g F) := by
  refine zMv_of (cc := cX7_look) (maxL := 4) (by decide) rfl (Nat.le_of_ble_eq_true rfl) ?_
  intro p e s m args below meth c A Q ls hx hb hml hown hts hK hA hP hD hl hret
  have hown : s.vm.findClass RX7 = some m.cls := hown
  have iX7 : ∀ w ∈ wsX70, w ∈ wsX7_look := by decide +kernel
  have f185 := hts (.fieldLink RX7 185 "MeshFieldModel" "greatest" "I") (by decide +kernel)
  have f119 := hts (.fieldLink RX7 119 "MeshFieldModel" "machines" "I") (by decide +kernel)
  have f86 := hts (.fieldLink RX7 86 "MeshFieldModel" "firstWhole" "I") (by decide +kernel)
  have f131 := hts (.fieldLink RX7 131 "MeshFieldModel" "tick" "I") (by decide +kernel)
  have f32 := hts (.fieldLink RX7 32 "MeshFieldModel" "number" "[I") (by decide +kernel)
  have hS : va_S A s.heap s.heap [] := va_S.rf
  have hl : lv_has ls 4 [(0, .ref (q 0))] := hl
  have K_35 : ∀ (nf : Nat) (H : Heap) (locs : List Loc) (ls : Array Slot) (g_ : zF) (lo1 : Int32) (lo2 : Int32) (lo3 : Int32), va_P dD vwCl (zQ cI q g_ F) H → va_D A (zQ cI q g_ F) → va_S A s.heap H locs → lv_has ls 4 [(0, .ref (q 0)), (1, .int lo1), (2, .int lo2), (3, .int lo3)] → s_X7_look_b35 F nf g_ lo1 lo2 lo3 = some (r_g) → W p l e rm_X7_look s m args below meth c H locs 0 0 Q (F0 m 35 ls []) := by
    intro nf
    induction nf with
    | zero =>
      intro H locs ls g_ lo1 lo2 lo3 hP hD hS hl hsp
      exact absurd (show (none : Option (zF)) = some (r_g) from hsp) (fun h => by cases h)
    | succ n35 ih35 =>
      intro H locs ls g_ lo1 lo2 lo3 hP hD hS hl hsp
      rw [s_X7_look_b35] at hsp
      refine lv_iload_n hx hb dX7_look_35 rfl (lv_at hl 3 rfl) ?_
      refine lv_aload_n hx hb dX7_look_36 rfl (lv_at hl 0 rfl) ?_
      refine va_get (D := dD) (ci := 7) (v := .int (g_ 5)) (C := RX7) (T := TX7) (N := 41) hx hb hts iX7 hown hK.1 hP 0 rfl rfl 5 (by decide) f119 (fun _ h9 => h9) rfl dX7_look_37 ?_
      refine lv_icmp_ge (tgt := 77) hx hb dX7_look_40 (by decide) (fun c5 => ?_) (fun c5 => ?_)
      · have hsp := z_t c5 hsp
        refine lv_iload_n hx hb dX7_look_77 rfl (lv_at hl 2 rfl) ?_
        refine lv_if_eq (tgt := 96) hx hb dX7_look_78 (by decide) (fun c6 => ?_) (fun c6 => ?_)
        · have hsp := z_t c6 hsp
          obtain rfl := Option.some.inj hsp
          exact hret _ _ ls 96 dX7_look_96 hP hD hS
        · have hsp := z_f c6 hsp
          refine lv_aload_n hx hb dX7_look_81 rfl (lv_at hl 0 rfl) ?_
          refine va_get (D := dD) (ci := 7) (v := .int (g_ 30)) (C := RX7) (T := TX7) (N := 41) hx hb hts iX7 hown hK.1 hP 0 rfl rfl 30 (by decide) f86 (fun _ h9 => h9) rfl dX7_look_82 ?_
          refine lv_if_ge (tgt := 96) hx hb dX7_look_85 (by decide) (fun c7 => ?_) (fun c7 => ?_)
          · have hsp := z_t c7 hsp
            obtain rfl := Option.some.inj hsp
            exact hret _ _ ls 96 dX7_look_96 hP hD hS
          · have hsp := z_f c7 hsp
            refine lv_aload_n hx hb dX7_look_88 rfl (lv_at hl 0 rfl) ?_
            refine lv_aload_n hx hb dX7_look_89 rfl (lv_at hl 0 rfl) ?_
            refine va_get (D := dD) (ci := 7) (v := .int (g_ 6)) (C := RX7) (T := TX7) (N := 41) hx hb hts iX7 hown hK.1 hP 0 rfl rfl 6 (by decide) f131 (fun _ h9 => h9) rfl dX7_look_90 ?_
            refine va_put (D := dD) (ci := 7) (v := .int (g_ 6)) (ty := .int) (C := RX7) (T := TX7) (N := 41) hx hb hts iX7 tyX7 tyX7_ok nmX7 hown hK.1 hP hD hS 0 rfl rfl 30 (by decide) f86 (fun _ h9 => h9) rfl (by decide +kernel) rfl rfl (Nat.le_of_ble_eq_true rfl) dX7_look_93 (fun H locs hP hD hS => ?_)
            obtain ⟨g8, eg8, hsp⟩ := z_lt hsp
            have hP : va_P dD vwCl (zQ cI q g8 F) H := by rw [eg8]; exact hP
            have hD : va_D A (zQ cI q g8 F) := by rw [eg8]; exact hD
            obtain rfl := Option.some.inj hsp
            exact hret _ _ ls 96 dX7_look_96 hP hD hS
      · have hsp := z_f c5 hsp
        refine lv_iload_n hx hb dX7_look_43 rfl (lv_at hl 2 rfl) ?_
        refine lv_if_eq (tgt := 69) hx hb dX7_look_44 (by decide) (fun c9 => ?_) (fun c9 => ?_)
        · have hsp := z_t c9 hsp
          refine lv_iconst (v := 0) hx hb dX7_look_69 (by decide) ?_
          refine lv_istore_n (lv' := [(2, .int 0), (0, .ref (q 0)), (1, .int lo1), (3, .int lo3)]) hx hb dX7_look_70 rfl hl (by decide) rfl (fun ls hl => ?_)
          obtain ⟨x10, ex10, hsp⟩ := z_lt hsp
          refine lv_iinc (v := x10) (lv' := [(3, .int x10), (2, .int 0), (0, .ref (q 0)), (1, .int lo1)]) hx hb dX7_look_71 hl (k := 3) rfl (by rw [ex10]; rfl) (by decide) rfl (fun ls hl => ?_)
          refine lv_goto (tgt := 35) hx hb dX7_look_74 (by decide) ?_
          exact ih35 _ _ ls g_ (lo1) (0) (x10) hP hD hS (lv_sub hl [2, 3, 1, 0] rfl) hsp
        · have hsp := z_f c9 hsp
          refine lv_aload_n hx hb dX7_look_47 rfl (lv_at hl 0 rfl) ?_
          refine va_get (D := dD) (ci := 7) (v := .ref (q 11)) (C := RX7) (T := TX7) (N := 41) hx hb hts iX7 hown hK.1 hP 0 rfl rfl 11 (by decide) f32 (fun _ h9 => h9) rfl dX7_look_48 ?_
          refine lv_iload_n hx hb dX7_look_51 rfl (lv_at hl 3 rfl) ?_
          obtain ⟨h11, hsp⟩ := z_in hsp
          refine va_iald hx hb hK.1 hP 3 0 rfl rfl h11 dX7_look_52 ?_
          refine lv_iload_n hx hb dX7_look_53 rfl (lv_at hl 1 rfl) ?_
          refine lv_icmp_ne (tgt := 69) hx hb dX7_look_54 (by decide) (fun c12 => ?_) (fun c12 => ?_)
          · have hsp := z_f c12 hsp
            refine lv_iconst (v := 0) hx hb dX7_look_69 (by decide) ?_
            refine lv_istore_n (lv' := [(2, .int 0), (0, .ref (q 0)), (1, .int lo1), (3, .int lo3)]) hx hb dX7_look_70 rfl hl (by decide) rfl (fun ls hl => ?_)
            obtain ⟨x13, ex13, hsp⟩ := z_lt hsp
            refine lv_iinc (v := x13) (lv' := [(3, .int x13), (2, .int 0), (0, .ref (q 0)), (1, .int lo1)]) hx hb dX7_look_71 hl (k := 3) rfl (by rw [ex13]; rfl) (by decide) rfl (fun ls hl => ?_)
            refine lv_goto (tgt := 35) hx hb dX7_look_74 (by decide) ?_
            exact ih35 _ _ ls g_ (lo1) (0) (x13) hP hD hS (lv_sub hl [2, 3, 1, 0] rfl) hsp
          · have hsp := z_t c12 hsp
            refine lv_aload_n hx hb dX7_look_57 rfl (lv_at hl 0 rfl) ?_
            refine lv_iload_n hx hb dX7_look_58 rfl (lv_at hl 3 rfl) ?_
            obtain ⟨v14, hc15, hsp⟩ := z_b1 hsp
            refine z_callVi ⟨hx, hb, hml, hown, hts⟩ hK (c_X7_isWhole l dD cI cA q g_ F (lo3) v14 hc15) (cwV 1 hts gX7_look_X7_isWhole rfl rfl rfl (by decide +kernel) ⟨Nat.le_of_ble_eq_true rfl, Nat.le_of_ble_eq_true rfl⟩) (zJ.full hP hD hS hA) hS 0 7 rfl rfl rfl rfl hl.1 rfl (Nat.le_of_ble_eq_true rfl) dX7_look_59 ⟨Nat.zero_le _, Nat.zero_le _⟩ (fun H locs hP hD hS => ?_)
            refine lv_if_eq (tgt := 69) hx hb dX7_look_62 (by decide) (fun c16 => ?_) (fun c16 => ?_)
            · have hsp := z_t c16 hsp
              refine lv_iconst (v := 0) hx hb dX7_look_69 (by decide) ?_
              refine lv_istore_n (lv' := [(2, .int 0), (0, .ref (q 0)), (1, .int lo1), (3, .int lo3)]) hx hb dX7_look_70 rfl hl (by decide) rfl (fun ls hl => ?_)
              obtain ⟨x17, ex17, hsp⟩ := z_lt hsp
              refine lv_iinc (v := x17) (lv' := [(3, .int x17), (2, .int 0), (0, .ref (q 0)), (1, .int lo1)]) hx hb dX7_look_71 hl (k := 3) rfl (by rw [ex17]; rfl) (by decide) rfl (fun ls hl => ?_)
              refine lv_goto (tgt := 35) hx hb dX7_look_74 (by decide) ?_
              exact ih35 _ _ ls g_ (lo1) (0) (x17) hP hD hS (lv_sub hl [2, 3, 1, 0] rfl) hsp
            · have hsp := z_f c16 hsp
              refine lv_iconst (v := 1) hx hb dX7_look_65 (by decide) ?_
              refine lv_goto (tgt := 70) hx hb dX7_look_66 (by decide) ?_
              refine lv_istore_n (lv' := [(2, .int 1), (0, .ref (q 0)), (1, .int lo1), (3, .int lo3)]) hx hb dX7_look_70 rfl hl (by decide) rfl (fun ls hl => ?_)
              obtain ⟨x18, ex18, hsp⟩ := z_lt hsp
              refine lv_iinc (v := x18) (lv' := [(3, .int x18), (2, .int 1), (0, .ref (q 0)), (1, .int lo1)]) hx hb dX7_look_71 hl (k := 3) rfl (by rw [ex18]; rfl) (by decide) rfl (fun ls hl => ?_)
              refine lv_goto (tgt := 35) hx hb dX7_look_74 (by decide) ?_
              exact ih35 _ _ ls g_ (lo1) (1) (x18) hP hD hS (lv_sub hl [2, 3, 1, 0] rfl) hsp
  have K_23 : ∀ (H : Heap) (locs : List Loc) (ls : Array Slot) (g_ : zF) (lo1 : Int32), va_P dD vwCl (zQ cI q g_ F) H → va_D A (zQ cI q g_ F) → va_S A s.heap H locs → lv_has ls 4 [(0, .ref (q 0)), (1, .int lo1)] → s_X7_look_b23 F g_ lo1 = some (r_g) → W p l e rm_X7_look s m args below meth c H locs 0 0 Q (F0 m 23 ls []) := by
    intro H locs ls g_ lo1 hP hD hS hl hsp
    unfold s_X7_look_b23 at hsp
    refine lv_iload_n hx hb dX7_look_23 rfl (lv_at hl 1 rfl) ?_
    refine lv_if_le (tgt := 31) hx hb dX7_look_24 (by decide) (fun c4 => ?_) (fun c4 => ?_)
    · have hsp := z_t c4 hsp
      refine lv_iconst (v := 0) hx hb dX7_look_31 (by decide) ?_
      refine lv_istore_n (lv' := [(2, .int 0), (0, .ref (q 0)), (1, .int lo1)]) hx hb dX7_look_32 rfl hl (by decide) rfl (fun ls hl => ?_)
      refine lv_iconst (v := 0) hx hb dX7_look_33 (by decide) ?_
      refine lv_istore_n (lv' := [(3, .int 0), (2, .int 0), (0, .ref (q 0)), (1, .int lo1)]) hx hb dX7_look_34 rfl hl (by decide) rfl (fun ls hl => ?_)
      exact K_35 13 _ _ ls g_ (lo1) (0) (0) hP hD hS (lv_sub hl [2, 3, 1, 0] rfl) hsp
    · have hsp := z_f c4 hsp
      refine lv_iconst (v := 1) hx hb dX7_look_27 (by decide) ?_
      refine lv_goto (tgt := 32) hx hb dX7_look_28 (by decide) ?_
      refine lv_istore_n (lv' := [(2, .int 1), (0, .ref (q 0)), (1, .int lo1)]) hx hb dX7_look_32 rfl hl (by decide) rfl (fun ls hl => ?_)
      refine lv_iconst (v := 0) hx hb dX7_look_33 (by decide) ?_
      refine lv_istore_n (lv' := [(3, .int 0), (2, .int 1), (0, .ref (q 0)), (1, .int lo1)]) hx hb dX7_look_34 rfl hl (by decide) rfl (fun ls hl => ?_)
      exact K_35 13 _ _ ls g_ (lo1) (1) (0) hP hD hS (lv_sub hl [2, 3, 1, 0] rfl) hsp
  unfold s_X7_look at hsp
  refine lv_aload_n hx hb dX7_look_0 rfl (lv_at hl 0 rfl) ?_
  obtain ⟨v1, hc2, hsp⟩ := z_b1 hsp
  refine z_callVi ⟨hx, hb, hml, hown, hts⟩ hK (c_X7_greatestKept l dD cI cA q g F v1 hc2) (cwV 0 hts gX7_look_X7_greatestKept rfl rfl rfl (by decide +kernel) ⟨Nat.le_of_ble_eq_true rfl, Nat.le_of_ble_eq_true rfl⟩) (zJ.full hP hD hS hA) hS 0 7 rfl rfl rfl rfl hl.1 rfl (Nat.le_of_ble_eq_true rfl) dX7_look_1 ⟨Nat.zero_le _, Nat.zero_le _⟩ (fun H locs hP hD hS => ?_)
  refine lv_istore_n (lv' := [(1, .int v1), (0, .ref (q 0))]) hx hb dX7_look_4 rfl hl (by decide) rfl (fun ls hl => ?_)
  refine lv_iload_n hx hb dX7_look_5 rfl (lv_at hl 0 rfl) ?_
  refine lv_aload_n hx hb dX7_look_6 rfl (lv_at hl 1 rfl) ?_
  refine va_get (D := dD) (ci := 7) (v := .int (g 29)) (C := RX7) (T := TX7) (N := 41) hx hb hts iX7 hown hK.1 hP 0 rfl rfl 29 (by decide) f185 (fun _ h9 => h9) rfl dX7_look_7 ?_
  refine lv_icmp_le (tgt := 23) hx hb dX7_look_10 (by decide) (fun c3 => ?_) (fun c3 => ?_)
  · have hsp := z_t c3 hsp
    exact K_23 _ _ ls g (v1) hP hD hS (lv_sub hl [1, 0] rfl) hsp
  · have hsp := z_f c3 hsp
    refine lv_aload_n hx hb dX7_look_13 rfl (lv_at hl 1 rfl) ?_
    refine lv_iload_n hx hb dX7_look_14 rfl (lv_at hl 0 rfl) ?_
    refine va_put (D := dD) (ci := 7) (v := .int v1) (ty := .int) (C := RX7) (T := TX7) (N := 41) hx hb hts iX7 tyX7 tyX7_ok nmX7 hown hK.1 hP hD hS 0 rfl rfl 29 (by decide) f185 (fun _ h9 => h9) rfl (by decide +kernel) rfl rfl (Nat.le_of_ble_eq_true rfl) dX7_look_15 (fun H locs hP hD hS => ?_)
    obtain ⟨g19, eg19, hsp⟩ := z_lt hsp
    have hP : va_P dD vwCl (zQ cI q g19 F) H := by rw [eg19]; exact hP
    have hD : va_D A (zQ cI q g19 F) := by rw [eg19]; exact hD
    refine lv_aload_n hx hb dX7_look_18 rfl (lv_at hl 1 rfl) ?_
    refine lv_iconst (v := (-1)) hx hb dX7_look_19 (by decide) ?_
    refine va_put (D := dD) (ci := 7) (v := .int (-1)) (ty := .int) (C := RX7) (T := TX7) (N := 41) hx hb hts iX7 tyX7 tyX7_ok nmX7 hown hK.1 hP hD hS 0 rfl rfl 30 (by decide) f86 (fun _ h9 => h9) rfl (by decide +kernel) rfl rfl (Nat.le_of_ble_eq_true rfl) dX7_look_20 (fun H locs hP hD hS => ?_)
    obtain ⟨g20, eg20, hsp⟩ := z_lt hsp
    have hP : va_P dD vwCl (zQ cI q g20 F) H := by rw [eg20]; exact hP
    have hD : va_D A (zQ cI q g20 F) := by rw [eg20]; exact hD
    exact K_23 _ _ ls g20 (v1) hP hD hS (lv_sub hl [1, 0] rfl) hsp
def s_X7_ticks_b33  (kx33 : (zF) → (Nat → zF) → (Int32) → (Int32) → Option (Int32 × (zF) × (Nat → zF))) : Nat → (zF) → (Nat → zF) → (Int32) → (Int32) → (Int32) → Option (Int32 × (zF) × (Nat → zF))
  | 0, _, _, _, _, _ => none
  | n33 + 1, g_, F_, lo1, lo2, lo3 => (if (g_ 5) ≤ lo3 then (kx33 g_ F_ (lo1) (lo2)) else zb2 (s_X7_send g_ F_ (lo3)) fun (g12 : zF) (F13 : Nat → zF) => zl (lo3 + 1) fun (x15 : Int32) => (s_X7_ticks_b33  kx33 n33 g12 F13 (lo1) (lo2) (x15)))
def s_X7_ticks_b54  (kx54 : (zF) → (Nat → zF) → (Int32) → (Int32) → Option (Int32 × (zF) × (Nat → zF))) : Nat → (zF) → (Nat → zF) → (Int32) → (Int32) → (Int32) → Option (Int32 × (zF) × (Nat → zF))
  | 0, _, _, _, _, _ => none
  | n54 + 1, g_, F_, lo1, lo2, lo3 => (if (g_ 5) ≤ lo3 then (kx54 g_ F_ (lo1) (lo2)) else zb2 (s_X7_listen g_ F_ (lo3)) fun (g22 : zF) (F23 : Nat → zF) => zl (lo3 + 1) fun (x25 : Int32) => (s_X7_ticks_b54  kx54 n54 g22 F23 (lo1) (lo2) (x25)))
def s_X7_ticks_b75  (kx75 : (zF) → (Nat → zF) → (Int32) → (Int32) → Option (Int32 × (zF) × (Nat → zF))) : Nat → (zF) → (Nat → zF) → (Int32) → (Int32) → (Int32) → Option (Int32 × (zF) × (Nat → zF))
  | 0, _, _, _, _, _ => none
  | n75 + 1, g_, F_, lo1, lo2, lo3 => (if (g_ 5) ≤ lo3 then (kx75 g_ F_ (lo1) (lo2)) else zb2 (s_X7_work g_ F_ (lo3)) fun (g32 : zF) (F33 : Nat → zF) => zl (lo3 + 1) fun (x35 : Int32) => (s_X7_ticks_b75  kx75 n75 g32 F33 (lo1) (lo2) (x35)))
def s_X7_ticks_b96  (kx96 : (zF) → (Nat → zF) → (Int32) → (Int32) → Option (Int32 × (zF) × (Nat → zF))) : Nat → (zF) → (Nat → zF) → (Int32) → (Int32) → (Int32) → Option (Int32 × (zF) × (Nat → zF))
  | 0, _, _, _, _, _ => none
  | n96 + 1, g_, F_, lo1, lo2, lo3 => (if (g_ 5) ≤ lo3 then (kx96 g_ F_ (lo1) (lo2)) else zb2 (s_X7_finish g_ F_ (lo3)) fun (g42 : zF) (F43 : Nat → zF) => zl (lo3 + 1) fun (x45 : Int32) => (s_X7_ticks_b96  kx96 n96 g42 F43 (lo1) (lo2) (x45)))
def s_X7_ticks_b26  : Nat → (zF) → (Nat → zF) → (Int32) → (Int32) → Option (Int32 × (zF) × (Nat → zF))
  | 0, _, _, _, _ => none
  | n26 + 1, g_, F_, lo1, lo2 => (if lo1 ≤ lo2 then some ((g_ 6), g_, F_) else (s_X7_ticks_b33  (fun (y6 : zF) (y7 : Nat → zF) (y8 : Int32) (y9 : Int32) => (s_X7_ticks_b54  (fun (y16 : zF) (y17 : Nat → zF) (y18 : Int32) (y19 : Int32) => (s_X7_ticks_b75  (fun (y26 : zF) (y27 : Nat → zF) (y28 : Int32) (y29 : Int32) => (s_X7_ticks_b96  (fun (y36 : zF) (y37 : Nat → zF) (y38 : Int32) (y39 : Int32) => zb1 (s_X7_look y36 y37) fun (g46 : zF) => zl (va_up g46 6 (((g46 6) + 1))) fun (g48 : zF) => zl (y39 + 1) fun (x49 : Int32) => (s_X7_ticks_b26  n26 g48 y37 (y38) (x49))) 13 y26 y27 (y28) (y29) (0))) 13 y16 y17 (y18) (y19) (0))) 13 y6 y7 (y8) (y9) (0))) 13 g_ F_ (lo1) (lo2) (0)))
def s_X7_ticks (g : zF) (F : Nat → zF) (p1 : Int32) : Option (Int32 × (zF) × (Nat → zF)) := zb1 (s_X7_isIn (p1) (1) (200)) fun (v1 : Int32) => (if v1 = 0 then some ((-1), g, F) else (if ((g 6) + p1) ≤ 100000 then (s_X7_ticks_b26  201 g F (p1) (0)) else some ((-1), g, F)))
abbrev rm_X7_ticks : Room := { frames := 6, cells := 0, slots := 0, locals := 131 }
set_option maxHeartbeats 4000000 in
set_option maxRecDepth 100000 in
theorem c_X7_ticks (l : Launch) (dD : va_G) (cI cA : ClassId) (q : Nat → Nat) (g : zF) (F : Nat → zF) (p1 : Int32) (rv : Int32) (r_g : zF) (r_F : Nat → zF) (hsp : s_X7_ticks g F p1 = some (rv, r_g, r_F)) : zMi l yX7_ticks wsX7_ticks rm_X7_ticks dD cI cA [.ref (q 0), .int p1] (zQ cI q g F) (zQ cI q r_g r_F) rv := by
  refine zMi_of (cc := cX7_ticks) (maxL := 4) (by decide) rfl (Nat.le_of_ble_eq_true rfl) ?_
  intro p e s m args below meth c A Q ls hx hb hml hown hts hK hA hP hD hl hret
  have hown : s.vm.findClass RX7 = some m.cls := hown
  have iX7 : ∀ w ∈ wsX70, w ∈ wsX7_ticks := by decide +kernel
  have f131 := hts (.fieldLink RX7 131 "MeshFieldModel" "tick" "I") (by decide +kernel)
  have f119 := hts (.fieldLink RX7 119 "MeshFieldModel" "machines" "I") (by decide +kernel)
  have hS : va_S A s.heap s.heap [] := va_S.rf
  have hl : lv_has ls 4 [(0, .ref (q 0)), (1, .int p1)] := hl
  have K_33 : ∀ (kx33 : (zF) → (Nat → zF) → (Int32) → (Int32) → Option (Int32 × (zF) × (Nat → zF))), (∀ (H : Heap) (locs : List Loc) (ls : Array Slot) (u0 : zF) (u1 : Nat → zF) (u2 : Int32) (u3 : Int32), va_P dD vwCl (zQ cI q u0 u1) H → va_D A (zQ cI q u0 u1) → va_S A s.heap H locs → lv_has ls 4 [(0, .ref (q 0)), (1, .int u2), (2, .int u3)] → kx33 u0 u1 u2 u3 = some (rv, r_g, r_F) → W p l e rm_X7_ticks s m args below meth c H locs 0 0 Q (F0 m 52 ls [])) → ∀ (nf : Nat) (H : Heap) (locs : List Loc) (ls : Array Slot) (g_ : zF) (F_ : Nat → zF) (lo1 : Int32) (lo2 : Int32) (lo3 : Int32), va_P dD vwCl (zQ cI q g_ F_) H → va_D A (zQ cI q g_ F_) → va_S A s.heap H locs → lv_has ls 4 [(0, .ref (q 0)), (1, .int lo1), (2, .int lo2), (3, .int lo3)] → s_X7_ticks_b33  kx33 nf g_ F_ lo1 lo2 lo3 = some (rv, r_g, r_F) → W p l e rm_X7_ticks s m args below meth c H locs 0 0 Q (F0 m 33 ls []) := by
    intro kx33 hkx33
    intro nf
    induction nf with
    | zero =>
      intro H locs ls g_ F_ lo1 lo2 lo3 hP hD hS hl hsp
      exact absurd (show (none : Option (Int32 × (zF) × (Nat → zF))) = some (rv, r_g, r_F) from hsp) (fun h => by cases h)
    | succ n33 ih33 =>
      intro H locs ls g_ F_ lo1 lo2 lo3 hP hD hS hl hsp
      rw [s_X7_ticks_b33] at hsp
      refine lv_iload_n hx hb dX7_ticks_33 rfl (lv_at hl 3 rfl) ?_
      refine lv_aload_n hx hb dX7_ticks_34 rfl (lv_at hl 0 rfl) ?_
      refine va_get (D := dD) (ci := 7) (v := .int (g_ 5)) (C := RX7) (T := TX7) (N := 41) hx hb hts iX7 hown hK.1 hP 0 rfl rfl 5 (by decide) f119 (fun _ h9 => h9) rfl dX7_ticks_35 ?_
      refine lv_icmp_ge (tgt := 52) hx hb dX7_ticks_38 (by decide) (fun c11 => ?_) (fun c11 => ?_)
      · have hsp := z_t c11 hsp
        exact hkx33 _ _ ls g_ F_ (lo1) (lo2) hP hD hS (lv_sub hl [0, 1, 2] rfl) hsp
      · have hsp := z_f c11 hsp
        refine lv_aload_n hx hb dX7_ticks_41 rfl (lv_at hl 0 rfl) ?_
        refine lv_iload_n hx hb dX7_ticks_42 rfl (lv_at hl 3 rfl) ?_
        obtain ⟨g12, F13, hc14, hsp⟩ := z_b2 hsp
        refine z_callVv ⟨hx, hb, hml, hown, hts⟩ hK (c_X7_send l dD cI cA q g_ F_ (lo3) g12 F13 hc14) (cwV 1 hts gX7_ticks_X7_send rfl rfl rfl (by decide +kernel) ⟨Nat.le_of_ble_eq_true rfl, Nat.le_of_ble_eq_true rfl⟩) (zJ.full hP hD hS hA) hS 0 7 rfl rfl rfl rfl hl.1 rfl (Nat.le_of_ble_eq_true rfl) dX7_ticks_43 ⟨Nat.zero_le _, Nat.zero_le _⟩ (fun H locs hP hD hS => ?_)
        obtain ⟨x15, ex15, hsp⟩ := z_lt hsp
        refine lv_iinc (v := x15) (lv' := [(3, .int x15), (0, .ref (q 0)), (1, .int lo1), (2, .int lo2)]) hx hb dX7_ticks_46 hl (k := 3) rfl (by rw [ex15]; rfl) (by decide) rfl (fun ls hl => ?_)
        refine lv_goto (tgt := 33) hx hb dX7_ticks_49 (by decide) ?_
        exact ih33 _ _ ls g12 F13 (lo1) (lo2) (x15) hP hD hS (lv_sub hl [1, 2, 3, 0] rfl) hsp
  have K_54 : ∀ (kx54 : (zF) → (Nat → zF) → (Int32) → (Int32) → Option (Int32 × (zF) × (Nat → zF))), (∀ (H : Heap) (locs : List Loc) (ls : Array Slot) (u0 : zF) (u1 : Nat → zF) (u2 : Int32) (u3 : Int32), va_P dD vwCl (zQ cI q u0 u1) H → va_D A (zQ cI q u0 u1) → va_S A s.heap H locs → lv_has ls 4 [(0, .ref (q 0)), (1, .int u2), (2, .int u3)] → kx54 u0 u1 u2 u3 = some (rv, r_g, r_F) → W p l e rm_X7_ticks s m args below meth c H locs 0 0 Q (F0 m 73 ls [])) → ∀ (nf : Nat) (H : Heap) (locs : List Loc) (ls : Array Slot) (g_ : zF) (F_ : Nat → zF) (lo1 : Int32) (lo2 : Int32) (lo3 : Int32), va_P dD vwCl (zQ cI q g_ F_) H → va_D A (zQ cI q g_ F_) → va_S A s.heap H locs → lv_has ls 4 [(0, .ref (q 0)), (1, .int lo1), (2, .int lo2), (3, .int lo3)] → s_X7_ticks_b54  kx54 nf g_ F_ lo1 lo2 lo3 = some (rv, r_g, r_F) → W p l e rm_X7_ticks s m args below meth c H locs 0 0 Q (F0 m 54 ls []) := by
    intro kx54 hkx54
    intro nf
    induction nf with
    | zero =>
      intro H locs ls g_ F_ lo1 lo2 lo3 hP hD hS hl hsp
      exact absurd (show (none : Option (Int32 × (zF) × (Nat → zF))) = some (rv, r_g, r_F) from hsp) (fun h => by cases h)
    | succ n54 ih54 =>
      intro H locs ls g_ F_ lo1 lo2 lo3 hP hD hS hl hsp
      rw [s_X7_ticks_b54] at hsp
      refine lv_iload_n hx hb dX7_ticks_54 rfl (lv_at hl 3 rfl) ?_
      refine lv_aload_n hx hb dX7_ticks_55 rfl (lv_at hl 0 rfl) ?_
      refine va_get (D := dD) (ci := 7) (v := .int (g_ 5)) (C := RX7) (T := TX7) (N := 41) hx hb hts iX7 hown hK.1 hP 0 rfl rfl 5 (by decide) f119 (fun _ h9 => h9) rfl dX7_ticks_56 ?_
      refine lv_icmp_ge (tgt := 73) hx hb dX7_ticks_59 (by decide) (fun c21 => ?_) (fun c21 => ?_)
      · have hsp := z_t c21 hsp
        exact hkx54 _ _ ls g_ F_ (lo1) (lo2) hP hD hS (lv_sub hl [0, 1, 2] rfl) hsp
      · have hsp := z_f c21 hsp
        refine lv_aload_n hx hb dX7_ticks_62 rfl (lv_at hl 0 rfl) ?_
        refine lv_iload_n hx hb dX7_ticks_63 rfl (lv_at hl 3 rfl) ?_
        obtain ⟨g22, F23, hc24, hsp⟩ := z_b2 hsp
        refine z_callVv ⟨hx, hb, hml, hown, hts⟩ hK (c_X7_listen l dD cI cA q g_ F_ (lo3) g22 F23 hc24) (cwV 1 hts gX7_ticks_X7_listen rfl rfl rfl (by decide +kernel) ⟨Nat.le_of_ble_eq_true rfl, Nat.le_of_ble_eq_true rfl⟩) (zJ.full hP hD hS hA) hS 0 7 rfl rfl rfl rfl hl.1 rfl (Nat.le_of_ble_eq_true rfl) dX7_ticks_64 ⟨Nat.zero_le _, Nat.zero_le _⟩ (fun H locs hP hD hS => ?_)
        obtain ⟨x25, ex25, hsp⟩ := z_lt hsp
        refine lv_iinc (v := x25) (lv' := [(3, .int x25), (0, .ref (q 0)), (1, .int lo1), (2, .int lo2)]) hx hb dX7_ticks_67 hl (k := 3) rfl (by rw [ex25]; rfl) (by decide) rfl (fun ls hl => ?_)
        refine lv_goto (tgt := 54) hx hb dX7_ticks_70 (by decide) ?_
        exact ih54 _ _ ls g22 F23 (lo1) (lo2) (x25) hP hD hS (lv_sub hl [1, 2, 3, 0] rfl) hsp
  have K_75 : ∀ (kx75 : (zF) → (Nat → zF) → (Int32) → (Int32) → Option (Int32 × (zF) × (Nat → zF))), (∀ (H : Heap) (locs : List Loc) (ls : Array Slot) (u0 : zF) (u1 : Nat → zF) (u2 : Int32) (u3 : Int32), va_P dD vwCl (zQ cI q u0 u1) H → va_D A (zQ cI q u0 u1) → va_S A s.heap H locs → lv_has ls 4 [(0, .ref (q 0)), (1, .int u2), (2, .int u3)] → kx75 u0 u1 u2 u3 = some (rv, r_g, r_F) → W p l e rm_X7_ticks s m args below meth c H locs 0 0 Q (F0 m 94 ls [])) → ∀ (nf : Nat) (H : Heap) (locs : List Loc) (ls : Array Slot) (g_ : zF) (F_ : Nat → zF) (lo1 : Int32) (lo2 : Int32) (lo3 : Int32), va_P dD vwCl (zQ cI q g_ F_) H → va_D A (zQ cI q g_ F_) → va_S A s.heap H locs → lv_has ls 4 [(0, .ref (q 0)), (1, .int lo1), (2, .int lo2), (3, .int lo3)] → s_X7_ticks_b75  kx75 nf g_ F_ lo1 lo2 lo3 = some (rv, r_g, r_F) → W p l e rm_X7_ticks s m args below meth c H locs 0 0 Q (F0 m 75 ls []) := by
    intro kx75 hkx75
    intro nf
    induction nf with
    | zero =>
      intro H locs ls g_ F_ lo1 lo2 lo3 hP hD hS hl hsp
      exact absurd (show (none : Option (Int32 × (zF) × (Nat → zF))) = some (rv, r_g, r_F) from hsp) (fun h => by cases h)
    | succ n75 ih75 =>
      intro H locs ls g_ F_ lo1 lo2 lo3 hP hD hS hl hsp
      rw [s_X7_ticks_b75] at hsp
      refine lv_iload_n hx hb dX7_ticks_75 rfl (lv_at hl 3 rfl) ?_
      refine lv_aload_n hx hb dX7_ticks_76 rfl (lv_at hl 0 rfl) ?_
      refine va_get (D := dD) (ci := 7) (v := .int (g_ 5)) (C := RX7) (T := TX7) (N := 41) hx hb hts iX7 hown hK.1 hP 0 rfl rfl 5 (by decide) f119 (fun _ h9 => h9) rfl dX7_ticks_77 ?_
      refine lv_icmp_ge (tgt := 94) hx hb dX7_ticks_80 (by decide) (fun c31 => ?_) (fun c31 => ?_)
      · have hsp := z_t c31 hsp
        exact hkx75 _ _ ls g_ F_ (lo1) (lo2) hP hD hS (lv_sub hl [0, 1, 2] rfl) hsp
      · have hsp := z_f c31 hsp
        refine lv_aload_n hx hb dX7_ticks_83 rfl (lv_at hl 0 rfl) ?_
        refine lv_iload_n hx hb dX7_ticks_84 rfl (lv_at hl 3 rfl) ?_
        obtain ⟨g32, F33, hc34, hsp⟩ := z_b2 hsp
        refine z_callVv ⟨hx, hb, hml, hown, hts⟩ hK (c_X7_work l dD cI cA q g_ F_ (lo3) g32 F33 hc34) (cwV 1 hts gX7_ticks_X7_work rfl rfl rfl (by decide +kernel) ⟨Nat.le_of_ble_eq_true rfl, Nat.le_of_ble_eq_true rfl⟩) (zJ.full hP hD hS hA) hS 0 7 rfl rfl rfl rfl hl.1 rfl (Nat.le_of_ble_eq_true rfl) dX7_ticks_85 ⟨Nat.zero_le _, Nat.zero_le _⟩ (fun H locs hP hD hS => ?_)
        obtain ⟨x35, ex35, hsp⟩ := z_lt hsp
        refine lv_iinc (v := x35) (lv' := [(3, .int x35), (0, .ref (q 0)), (1, .int lo1), (2, .int lo2)]) hx hb dX7_ticks_88 hl (k := 3) rfl (by rw [ex35]; rfl) (by decide) rfl (fun ls hl => ?_)
        refine lv_goto (tgt := 75) hx hb dX7_ticks_91 (by decide) ?_
        exact ih75 _ _ ls g32 F33 (lo1) (lo2) (x35) hP hD hS (lv_sub hl [1, 2, 3, 0] rfl) hsp
  have K_96 : ∀ (kx96 : (zF) → (Nat → zF) → (Int32) → (Int32) → Option (Int32 × (zF) × (Nat → zF))), (∀ (H : Heap) (locs : List Loc) (ls : Array Slot) (u0 : zF) (u1 : Nat → zF) (u2 : Int32) (u3 : Int32), va_P dD vwCl (zQ cI q u0 u1) H → va_D A (zQ cI q u0 u1) → va_S A s.heap H locs → lv_has ls 4 [(0, .ref (q 0)), (1, .int u2), (2, .int u3)] → kx96 u0 u1 u2 u3 = some (rv, r_g, r_F) → W p l e rm_X7_ticks s m args below meth c H locs 0 0 Q (F0 m 115 ls [])) → ∀ (nf : Nat) (H : Heap) (locs : List Loc) (ls : Array Slot) (g_ : zF) (F_ : Nat → zF) (lo1 : Int32) (lo2 : Int32) (lo3 : Int32), va_P dD vwCl (zQ cI q g_ F_) H → va_D A (zQ cI q g_ F_) → va_S A s.heap H locs → lv_has ls 4 [(0, .ref (q 0)), (1, .int lo1), (2, .int lo2), (3, .int lo3)] → s_X7_ticks_b96  kx96 nf g_ F_ lo1 lo2 lo3 = some (rv, r_g, r_F) → W p l e rm_X7_ticks s m args below meth c H locs 0 0 Q (F0 m 96 ls []) := by
    intro kx96 hkx96
    intro nf
    induction nf with
    | zero =>
      intro H locs ls g_ F_ lo1 lo2 lo3 hP hD hS hl hsp
      exact absurd (show (none : Option (Int32 × (zF) × (Nat → zF))) = some (rv, r_g, r_F) from hsp) (fun h => by cases h)
    | succ n96 ih96 =>
      intro H locs ls g_ F_ lo1 lo2 lo3 hP hD hS hl hsp
      rw [s_X7_ticks_b96] at hsp
      refine lv_iload_n hx hb dX7_ticks_96 rfl (lv_at hl 3 rfl) ?_
      refine lv_aload_n hx hb dX7_ticks_97 rfl (lv_at hl 0 rfl) ?_
      refine va_get (D := dD) (ci := 7) (v := .int (g_ 5)) (C := RX7) (T := TX7) (N := 41) hx hb hts iX7 hown hK.1 hP 0 rfl rfl 5 (by decide) f119 (fun _ h9 => h9) rfl dX7_ticks_98 ?_
      refine lv_icmp_ge (tgt := 115) hx hb dX7_ticks_101 (by decide) (fun c41 => ?_) (fun c41 => ?_)
      · have hsp := z_t c41 hsp
        exact hkx96 _ _ ls g_ F_ (lo1) (lo2) hP hD hS (lv_sub hl [0, 1, 2] rfl) hsp
      · have hsp := z_f c41 hsp
        refine lv_aload_n hx hb dX7_ticks_104 rfl (lv_at hl 0 rfl) ?_
        refine lv_iload_n hx hb dX7_ticks_105 rfl (lv_at hl 3 rfl) ?_
        obtain ⟨g42, F43, hc44, hsp⟩ := z_b2 hsp
        refine z_callVv ⟨hx, hb, hml, hown, hts⟩ hK (c_X7_finish l dD cI cA q g_ F_ (lo3) g42 F43 hc44) (cwV 1 hts gX7_ticks_X7_finish rfl rfl rfl (by decide +kernel) ⟨Nat.le_of_ble_eq_true rfl, Nat.le_of_ble_eq_true rfl⟩) (zJ.full hP hD hS hA) hS 0 7 rfl rfl rfl rfl hl.1 rfl (Nat.le_of_ble_eq_true rfl) dX7_ticks_106 ⟨Nat.zero_le _, Nat.zero_le _⟩ (fun H locs hP hD hS => ?_)
        obtain ⟨x45, ex45, hsp⟩ := z_lt hsp
        refine lv_iinc (v := x45) (lv' := [(3, .int x45), (0, .ref (q 0)), (1, .int lo1), (2, .int lo2)]) hx hb dX7_ticks_109 hl (k := 3) rfl (by rw [ex45]; rfl) (by decide) rfl (fun ls hl => ?_)
        refine lv_goto (tgt := 96) hx hb dX7_ticks_112 (by decide) ?_
        exact ih96 _ _ ls g42 F43 (lo1) (lo2) (x45) hP hD hS (lv_sub hl [1, 2, 3, 0] rfl) hsp
  have K_26 : ∀ (nf : Nat) (H : Heap) (locs : List Loc) (ls : Array Slot) (g_ : zF) (F_ : Nat → zF) (lo1 : Int32) (lo2 : Int32), va_P dD vwCl (zQ cI q g_ F_) H → va_D A (zQ cI q g_ F_) → va_S A s.heap H locs → lv_has ls 4 [(0, .ref (q 0)), (1, .int lo1), (2, .int lo2)] → s_X7_ticks_b26  nf g_ F_ lo1 lo2 = some (rv, r_g, r_F) → W p l e rm_X7_ticks s m args below meth c H locs 0 0 Q (F0 m 26 ls []) := by
    intro nf
    induction nf with
    | zero =>
      intro H locs ls g_ F_ lo1 lo2 hP hD hS hl hsp
      exact absurd (show (none : Option (Int32 × (zF) × (Nat → zF))) = some (rv, r_g, r_F) from hsp) (fun h => by cases h)
    | succ n26 ih26 =>
      intro H locs ls g_ F_ lo1 lo2 hP hD hS hl hsp
      rw [s_X7_ticks_b26] at hsp
      refine lv_iload_n hx hb dX7_ticks_26 rfl (lv_at hl 2 rfl) ?_
      refine lv_iload_n hx hb dX7_ticks_27 rfl (lv_at hl 1 rfl) ?_
      refine lv_icmp_ge (tgt := 135) hx hb dX7_ticks_28 (by decide) (fun c5 => ?_) (fun c5 => ?_)
      · have hsp := z_t c5 hsp
        refine lv_aload_n hx hb dX7_ticks_135 rfl (lv_at hl 0 rfl) ?_
        refine va_get (D := dD) (ci := 7) (v := .int (g_ 6)) (C := RX7) (T := TX7) (N := 41) hx hb hts iX7 hown hK.1 hP 0 rfl rfl 6 (by decide) f131 (fun _ h9 => h9) rfl dX7_ticks_136 ?_
        obtain ⟨rfl, rfl, rfl⟩ := z_i3 hsp
        exact hret _ _ ls 139 dX7_ticks_139 rfl hP hD hS
      · have hsp := z_f c5 hsp
        refine lv_iconst (v := 0) hx hb dX7_ticks_31 (by decide) ?_
        refine lv_istore_n (lv' := [(3, .int 0), (0, .ref (q 0)), (1, .int lo1), (2, .int lo2)]) hx hb dX7_ticks_32 rfl hl (by decide) rfl (fun ls hl => ?_)
        refine K_33 _ (fun H locs ls y6 y7 y8 y9 hP hD hS hl hsp => ?_) 13 _ _ ls g_ F_ (lo1) (lo2) (0) hP hD hS (lv_sub hl [1, 2, 3, 0] rfl) hsp
        refine lv_iconst (v := 0) hx hb dX7_ticks_52 (by decide) ?_
        refine lv_istore_n (lv' := [(3, .int 0), (0, .ref (q 0)), (1, .int y8), (2, .int y9)]) hx hb dX7_ticks_53 rfl hl (by decide) rfl (fun ls hl => ?_)
        refine K_54 _ (fun H locs ls y16 y17 y18 y19 hP hD hS hl hsp => ?_) 13 _ _ ls y6 y7 (y8) (y9) (0) hP hD hS (lv_sub hl [1, 2, 3, 0] rfl) hsp
        refine lv_iconst (v := 0) hx hb dX7_ticks_73 (by decide) ?_
        refine lv_istore_n (lv' := [(3, .int 0), (0, .ref (q 0)), (1, .int y18), (2, .int y19)]) hx hb dX7_ticks_74 rfl hl (by decide) rfl (fun ls hl => ?_)
        refine K_75 _ (fun H locs ls y26 y27 y28 y29 hP hD hS hl hsp => ?_) 13 _ _ ls y16 y17 (y18) (y19) (0) hP hD hS (lv_sub hl [1, 2, 3, 0] rfl) hsp
        refine lv_iconst (v := 0) hx hb dX7_ticks_94 (by decide) ?_
        refine lv_istore_n (lv' := [(3, .int 0), (0, .ref (q 0)), (1, .int y28), (2, .int y29)]) hx hb dX7_ticks_95 rfl hl (by decide) rfl (fun ls hl => ?_)
        refine K_96 _ (fun H locs ls y36 y37 y38 y39 hP hD hS hl hsp => ?_) 13 _ _ ls y26 y27 (y28) (y29) (0) hP hD hS (lv_sub hl [1, 2, 3, 0] rfl) hsp
        refine lv_aload_n hx hb dX7_ticks_115 rfl (lv_at hl 0 rfl) ?_
        obtain ⟨g46, hc47, hsp⟩ := z_b1 hsp
        refine z_callVv ⟨hx, hb, hml, hown, hts⟩ hK (c_X7_look l dD cI cA q y36 y37 g46 hc47) (cwV 0 hts gX7_ticks_X7_look rfl rfl rfl (by decide +kernel) ⟨Nat.le_of_ble_eq_true rfl, Nat.le_of_ble_eq_true rfl⟩) (zJ.full hP hD hS hA) hS 0 7 rfl rfl rfl rfl hl.1 rfl (Nat.le_of_ble_eq_true rfl) dX7_ticks_116 ⟨Nat.zero_le _, Nat.zero_le _⟩ (fun H locs hP hD hS => ?_)
        refine lv_aload_n hx hb dX7_ticks_119 rfl (lv_at hl 0 rfl) ?_
        refine lv_dup hx hb dX7_ticks_120 rfl ?_
        refine va_get (D := dD) (ci := 7) (v := .int (g46 6)) (C := RX7) (T := TX7) (N := 41) hx hb hts iX7 hown hK.1 hP 0 rfl rfl 6 (by decide) f131 (fun _ h9 => h9) rfl dX7_ticks_121 ?_
        refine lv_iconst (v := 1) hx hb dX7_ticks_124 (by decide) ?_
        refine lv_iadd hx hb dX7_ticks_125 ?_
        refine va_put (D := dD) (ci := 7) (v := .int ((g46 6) + 1)) (ty := .int) (C := RX7) (T := TX7) (N := 41) hx hb hts iX7 tyX7 tyX7_ok nmX7 hown hK.1 hP hD hS 0 rfl rfl 6 (by decide) f131 (fun _ h9 => h9) rfl (by decide +kernel) rfl rfl (Nat.le_of_ble_eq_true rfl) dX7_ticks_126 (fun H locs hP hD hS => ?_)
        obtain ⟨g48, eg48, hsp⟩ := z_lt hsp
        have hP : va_P dD vwCl (zQ cI q g48 y37) H := by rw [eg48]; exact hP
        have hD : va_D A (zQ cI q g48 y37) := by rw [eg48]; exact hD
        obtain ⟨x49, ex49, hsp⟩ := z_lt hsp
        refine lv_iinc (v := x49) (lv' := [(2, .int x49), (0, .ref (q 0)), (1, .int y38)]) hx hb dX7_ticks_129 hl (k := 2) rfl (by rw [ex49]; rfl) (by decide) rfl (fun ls hl => ?_)
        refine lv_goto (tgt := 26) hx hb dX7_ticks_132 (by decide) ?_
        exact ih26 _ _ ls g48 y37 (y38) (x49) hP hD hS (lv_sub hl [1, 2, 0] rfl) hsp
  unfold s_X7_ticks at hsp
  refine lv_iload_n hx hb dX7_ticks_0 rfl (lv_at hl 1 rfl) ?_
  refine lv_iconst (v := 1) hx hb dX7_ticks_1 (by decide) ?_
  refine lv_sipush (v := 200) hx hb dX7_ticks_2 (by decide) ?_
  obtain ⟨v1, hc2, hsp⟩ := z_b1 hsp
  refine z_callSi ⟨hx, hb, hml, hown, hts⟩ hK (c_X7_isIn l dD cI cA (p1) (1) (200) v1 hc2) (va_cwS 3 hts gX7_ticks_X7_isIn rfl rfl rfl (by decide +kernel) ⟨Nat.le_of_ble_eq_true rfl, Nat.le_of_ble_eq_true rfl⟩) (zJ.none hP hD hS hA) hS rfl hl.1 rfl (Nat.le_of_ble_eq_true rfl) dX7_ticks_5 ⟨Nat.zero_le _, Nat.zero_le _⟩ (fun H locs hP hD hS => ?_)
  refine lv_if_eq (tgt := 22) hx hb dX7_ticks_8 (by decide) (fun c3 => ?_) (fun c3 => ?_)
  · have hsp := z_t c3 hsp
    refine lv_iconst (v := (-1)) hx hb dX7_ticks_22 (by decide) ?_
    obtain ⟨rfl, rfl, rfl⟩ := z_i3 hsp
    exact hret _ _ ls 23 dX7_ticks_23 rfl hP hD hS
  · have hsp := z_f c3 hsp
    refine lv_aload_n hx hb dX7_ticks_11 rfl (lv_at hl 0 rfl) ?_
    refine va_get (D := dD) (ci := 7) (v := .int (g 6)) (C := RX7) (T := TX7) (N := 41) hx hb hts iX7 hown hK.1 hP 0 rfl rfl 6 (by decide) f131 (fun _ h9 => h9) rfl dX7_ticks_12 ?_
    refine lv_iload_n hx hb dX7_ticks_15 rfl (lv_at hl 1 rfl) ?_
    refine lv_iadd hx hb dX7_ticks_16 ?_
    refine lv_ldc (v := 100000) hx hb hown (hts (.constant RX7 188 100000) (by decide +kernel)) dX7_ticks_17 ?_
    refine lv_icmp_le (tgt := 24) hx hb dX7_ticks_19 (by decide) (fun c4 => ?_) (fun c4 => ?_)
    · have hsp := z_t c4 hsp
      refine lv_iconst (v := 0) hx hb dX7_ticks_24 (by decide) ?_
      refine lv_istore_n (lv' := [(2, .int 0), (0, .ref (q 0)), (1, .int p1)]) hx hb dX7_ticks_25 rfl hl (by decide) rfl (fun ls hl => ?_)
      exact K_26 201 _ _ ls g F (p1) (0) hP hD hS (lv_sub hl [1, 2, 0] rfl) hsp
    · have hsp := z_f c4 hsp
      refine lv_iconst (v := (-1)) hx hb dX7_ticks_22 (by decide) ?_
      obtain ⟨rfl, rfl, rfl⟩ := z_i3 hsp
      exact hret _ _ ls 23 dX7_ticks_23 rfl hP hD hS
def s_X7_headOf_b6 (g : zF) (F : Nat → zF) : Nat → (Int32) → (Int32) → (Int32) → (Int32) → Option Int32
  | 0, _, _, _, _ => none
  | n6 + 1, lo1, lo2, lo3, lo4 => (if lo4 < 0 then some ((-1)) else (if lo2 < 0 then some ((-1)) else if ((12 * lo1) + lo4) < 0 ∨ 144 ≤ (((12 * lo1) + lo4)).toNatClampNeg then none else (if ((F 14) (((12 * lo1) + lo4)).toNatClampNeg) = 0 then zl (lo4 + (-1)) fun (x8 : Int32) => (s_X7_headOf_b6 g F n6 (lo1) (lo2) (lo3) (x8)) else (if lo3 = 0 then some (lo4) else zl (lo3 + (-1)) fun (x6 : Int32) => zl (lo4 + (-1)) fun (x7 : Int32) => (s_X7_headOf_b6 g F n6 (lo1) (lo2) (x6) (x7))))))
def s_X7_headOf (g : zF) (F : Nat → zF) (p1 : Int32) (p2 : Int32) : Option Int32 := (s_X7_headOf_b6 g F 13 (p1) (p2) (p2) (11))
abbrev rm_X7_headOf : Room := { frames := 0, cells := 0, slots := 0, locals := 0 }
set_option maxHeartbeats 4000000 in
set_option maxRecDepth 100000 in
theorem c_X7_headOf (l : Launch) (dD : va_G) (cI cA : ClassId) (q : Nat → Nat) (g : zF) (F : Nat → zF) (p1 : Int32) (p2 : Int32) (rv : Int32) (hsp : s_X7_headOf g F p1 p2 = some rv) : zMi l yX7_headOf wsX7_headOf rm_X7_headOf dD cI cA [.ref (q 0), .int p1, .int p2] (zQ cI q g F) (zQ cI q g F) rv := by
  refine zMi_of (cc := cX7_headOf) (maxL := 5) (by decide) rfl (Nat.le_of_ble_eq_true rfl) ?_
  intro p e s m args below meth c A Q ls hx hb hml hown hts hK hA hP hD hl hret
  have hown : s.vm.findClass RX7 = some m.cls := hown
  have iX7 : ∀ w ∈ wsX70, w ∈ wsX7_headOf := by decide +kernel
  have f41 := hts (.fieldLink RX7 41 "MeshFieldModel" "mask" "[I") (by decide +kernel)
  have hS : va_S A s.heap s.heap [] := va_S.rf
  have hl : lv_has ls 5 [(0, .ref (q 0)), (1, .int p1), (2, .int p2)] := hl
  have K_6 : ∀ (nf : Nat) (H : Heap) (locs : List Loc) (ls : Array Slot) (lo1 : Int32) (lo2 : Int32) (lo3 : Int32) (lo4 : Int32), va_P dD vwCl (zQ cI q g F) H → va_D A (zQ cI q g F) → va_S A s.heap H locs → lv_has ls 5 [(0, .ref (q 0)), (1, .int lo1), (2, .int lo2), (3, .int lo3), (4, .int lo4)] → s_X7_headOf_b6 g F nf lo1 lo2 lo3 lo4 = some rv → W p l e rm_X7_headOf s m args below meth c H locs 0 0 Q (F0 m 6 ls []) := by
    intro nf
    induction nf with
    | zero =>
      intro H locs ls lo1 lo2 lo3 lo4 hP hD hS hl hsp
      exact absurd (show (none : Option Int32) = some rv from hsp) (fun h => by cases h)
    | succ n6 ih6 =>
      intro H locs ls lo1 lo2 lo3 lo4 hP hD hS hl hsp
      rw [s_X7_headOf_b6] at hsp
      refine lv_iload hx hb dX7_headOf_6 (lv_at hl 4 rfl) ?_
      refine lv_if_lt (tgt := 49) hx hb dX7_headOf_8 (by decide) (fun c1 => ?_) (fun c1 => ?_)
      · have hsp := z_t c1 hsp
        refine lv_iconst (v := (-1)) hx hb dX7_headOf_49 (by decide) ?_
        obtain rfl := Option.some.inj hsp
        exact hret _ _ ls 50 dX7_headOf_50 rfl hP hD hS
      · have hsp := z_f c1 hsp
        refine lv_iload_n hx hb dX7_headOf_11 rfl (lv_at hl 2 rfl) ?_
        refine lv_if_lt (tgt := 49) hx hb dX7_headOf_12 (by decide) (fun c2 => ?_) (fun c2 => ?_)
        · have hsp := z_t c2 hsp
          refine lv_iconst (v := (-1)) hx hb dX7_headOf_49 (by decide) ?_
          obtain rfl := Option.some.inj hsp
          exact hret _ _ ls 50 dX7_headOf_50 rfl hP hD hS
        · have hsp := z_f c2 hsp
          refine lv_aload_n hx hb dX7_headOf_15 rfl (lv_at hl 0 rfl) ?_
          refine va_get (D := dD) (ci := 7) (v := .ref (q 14)) (C := RX7) (T := TX7) (N := 41) hx hb hts iX7 hown hK.1 hP 0 rfl rfl 14 (by decide) f41 (fun _ h9 => h9) rfl dX7_headOf_16 ?_
          refine lv_bipush (v := 12) hx hb dX7_headOf_19 (by decide) ?_
          refine lv_iload_n hx hb dX7_headOf_21 rfl (lv_at hl 1 rfl) ?_
          refine lv_imul hx hb dX7_headOf_22 ?_
          refine lv_iload hx hb dX7_headOf_23 (lv_at hl 4 rfl) ?_
          refine lv_iadd hx hb dX7_headOf_25 ?_
          obtain ⟨h3, hsp⟩ := z_in hsp
          refine va_iald hx hb hK.1 hP 6 0 rfl rfl h3 dX7_headOf_26 ?_
          refine lv_if_ne (tgt := 33) hx hb dX7_headOf_27 (by decide) (fun c4 => ?_) (fun c4 => ?_)
          · have hsp := z_f c4 hsp
            refine lv_iload_n hx hb dX7_headOf_33 rfl (lv_at hl 3 rfl) ?_
            refine lv_if_ne (tgt := 40) hx hb dX7_headOf_34 (by decide) (fun c5 => ?_) (fun c5 => ?_)
            · have hsp := z_f c5 hsp
              obtain ⟨x6, ex6, hsp⟩ := z_lt hsp
              refine lv_iinc (v := x6) (lv' := [(3, .int x6), (0, .ref (q 0)), (1, .int lo1), (2, .int lo2), (4, .int lo4)]) hx hb dX7_headOf_40 hl (k := 3) rfl (by rw [ex6]; rfl) (by decide) rfl (fun ls hl => ?_)
              obtain ⟨x7, ex7, hsp⟩ := z_lt hsp
              refine lv_iinc (v := x7) (lv' := [(4, .int x7), (3, .int x6), (0, .ref (q 0)), (1, .int lo1), (2, .int lo2)]) hx hb dX7_headOf_43 hl (k := 4) rfl (by rw [ex7]; rfl) (by decide) rfl (fun ls hl => ?_)
              refine lv_goto (tgt := 6) hx hb dX7_headOf_46 (by decide) ?_
              exact ih6 _ _ ls (lo1) (lo2) (x6) (x7) hP hD hS (lv_sub hl [2, 3, 4, 1, 0] rfl) hsp
            · have hsp := z_t c5 hsp
              refine lv_iload hx hb dX7_headOf_37 (lv_at hl 4 rfl) ?_
              obtain rfl := Option.some.inj hsp
              exact hret _ _ ls 39 dX7_headOf_39 rfl hP hD hS
          · have hsp := z_t c4 hsp
            refine lv_goto (tgt := 43) hx hb dX7_headOf_30 (by decide) ?_
            obtain ⟨x8, ex8, hsp⟩ := z_lt hsp
            refine lv_iinc (v := x8) (lv' := [(4, .int x8), (0, .ref (q 0)), (1, .int lo1), (2, .int lo2), (3, .int lo3)]) hx hb dX7_headOf_43 hl (k := 4) rfl (by rw [ex8]; rfl) (by decide) rfl (fun ls hl => ?_)
            refine lv_goto (tgt := 6) hx hb dX7_headOf_46 (by decide) ?_
            exact ih6 _ _ ls (lo1) (lo2) (lo3) (x8) hP hD hS (lv_sub hl [1, 2, 3, 4, 0] rfl) hsp
  unfold s_X7_headOf at hsp
  refine lv_iload_n hx hb dX7_headOf_0 rfl (lv_at hl 2 rfl) ?_
  refine lv_istore_n (lv' := [(3, .int p2), (0, .ref (q 0)), (1, .int p1), (2, .int p2)]) hx hb dX7_headOf_1 rfl hl (by decide) rfl (fun ls hl => ?_)
  refine lv_bipush (v := 11) hx hb dX7_headOf_2 (by decide) ?_
  refine lv_istore (lv' := [(4, .int 11), (3, .int p2), (0, .ref (q 0)), (1, .int p1), (2, .int p2)]) hx hb dX7_headOf_4 hl (by decide) rfl (fun ls hl => ?_)
  exact K_6 13 _ _ ls (p1) (p2) (p2) (11) hP hD hS (lv_sub hl [2, 3, 4, 1, 0] rfl) hsp
def s_X7_machineOf (g : zF) (F : Nat → zF) (p1 : Int32) (p2 : Int32) : Option Int32 := zb1 (s_X7_isMachine g F (p1)) fun (v1 : Int32) => (if v1 = 0 then some ((-1)) else (if p2 < 100 then (if p2 = 0 then if p1 < 0 ∨ 12 ≤ (p1).toNatClampNeg then none else some (((F 11) (p1).toNatClampNeg)) else (if p2 = 1 then if p1 < 0 ∨ 12 ≤ (p1).toNatClampNeg then none else some (((F 12) (p1).toNatClampNeg)) else (if p2 = 2 then zb1 (s_X7_rank g F (p1)) fun (v10 : Int32) => some (v10) else (if p2 = 3 then zb1 (s_X7_isWhole g F (p1)) fun (v13 : Int32) => (if v13 = 0 then some (0) else some (1)) else (if p2 = 4 then if p1 < 0 ∨ 12 ≤ (p1).toNatClampNeg then none else some (((F 16) (p1).toNatClampNeg)) else (if p2 = 5 then if p1 < 0 ∨ 12 ≤ (p1).toNatClampNeg then none else some (((F 17) (p1).toNatClampNeg)) else (if p2 = 6 then if p1 < 0 ∨ 12 ≤ (p1).toNatClampNeg then none else some (((F 18) (p1).toNatClampNeg)) else (if p2 = 7 then if p1 < 0 ∨ 12 ≤ (p1).toNatClampNeg then none else some (((F 19) (p1).toNatClampNeg)) else (if p2 = 8 then if p1 < 0 ∨ 12 ≤ (p1).toNatClampNeg then none else some (((F 20) (p1).toNatClampNeg)) else (if p2 = 9 then if p1 < 0 ∨ 12 ≤ (p1).toNatClampNeg then none else some (((F 21) (p1).toNatClampNeg)) else (if p2 = 10 then if p1 < 0 ∨ 12 ≤ (p1).toNatClampNeg then none else some (((F 22) (p1).toNatClampNeg)) else (if p2 = 11 then if p1 < 0 ∨ 12 ≤ (p1).toNatClampNeg then none else some (((F 23) (p1).toNatClampNeg)) else (if p2 = 12 then if p1 < 0 ∨ 12 ≤ (p1).toNatClampNeg then none else some (((F 24) (p1).toNatClampNeg)) else (if p2 = 13 then if p1 < 0 ∨ 12 ≤ (p1).toNatClampNeg then none else some (((F 25) (p1).toNatClampNeg)) else (if p2 = 14 then if p1 < 0 ∨ 12 ≤ (p1).toNatClampNeg then none else some (((F 26) (p1).toNatClampNeg)) else (if p2 = 15 then if p1 < 0 ∨ 12 ≤ (p1).toNatClampNeg then none else some (((F 27) (p1).toNatClampNeg)) else (if p2 = 16 then if p1 < 0 ∨ 12 ≤ (p1).toNatClampNeg then none else some (((F 28) (p1).toNatClampNeg)) else some ((-1))))))))))))))))))) else zb1 (s_X7_headOf g F (p1) ((p2 - 100))) fun (v42 : Int32) => (if 0 ≤ v42 then if ((12 * p1) + v42) < 0 ∨ 144 ≤ (((12 * p1) + v42)).toNatClampNeg then none else some (((F 14) (((12 * p1) + v42)).toNatClampNeg)) else some ((-1)))))
abbrev rm_X7_machineOf : Room := { frames := 2, cells := 0, slots := 0, locals := 44 }
set_option maxHeartbeats 4000000 in
set_option maxRecDepth 100000 in
theorem c_X7_machineOf (l : Launch) (dD : va_G) (cI cA : ClassId) (q : Nat → Nat) (g : zF) (F : Nat → zF) (p1 : Int32) (p2 : Int32) (rv : Int32) (hsp : s_X7_machineOf g F p1 p2 = some rv) : zMi l yX7_machineOf wsX7_machineOf rm_X7_machineOf dD cI cA [.ref (q 0), .int p1, .int p2] (zQ cI q g F) (zQ cI q g F) rv := by
  refine zMi_of (cc := cX7_machineOf) (maxL := 4) (by decide) rfl (Nat.le_of_ble_eq_true rfl) ?_
  intro p e s m args below meth c A Q ls hx hb hml hown hts hK hA hP hD hl hret
  have hown : s.vm.findClass RX7 = some m.cls := hown
  have iX7 : ∀ w ∈ wsX70, w ∈ wsX7_machineOf := by decide +kernel
  have f32 := hts (.fieldLink RX7 32 "MeshFieldModel" "number" "[I") (by decide +kernel)
  have f35 := hts (.fieldLink RX7 35 "MeshFieldModel" "many" "[I") (by decide +kernel)
  have f47 := hts (.fieldLink RX7 47 "MeshFieldModel" "runs" "[I") (by decide +kernel)
  have f50 := hts (.fieldLink RX7 50 "MeshFieldModel" "span" "[I") (by decide +kernel)
  have f53 := hts (.fieldLink RX7 53 "MeshFieldModel" "began" "[I") (by decide +kernel)
  have f56 := hts (.fieldLink RX7 56 "MeshFieldModel" "tellsAt" "[I") (by decide +kernel)
  have f59 := hts (.fieldLink RX7 59 "MeshFieldModel" "heard" "[I") (by decide +kernel)
  have f62 := hts (.fieldLink RX7 62 "MeshFieldModel" "dataAt" "[I") (by decide +kernel)
  have f65 := hts (.fieldLink RX7 65 "MeshFieldModel" "tells" "[I") (by decide +kernel)
  have f68 := hts (.fieldLink RX7 68 "MeshFieldModel" "mixes" "[I") (by decide +kernel)
  have f71 := hts (.fieldLink RX7 71 "MeshFieldModel" "spoilt" "[I") (by decide +kernel)
  have f74 := hts (.fieldLink RX7 74 "MeshFieldModel" "lost" "[I") (by decide +kernel)
  have f77 := hts (.fieldLink RX7 77 "MeshFieldModel" "lies" "[I") (by decide +kernel)
  have f80 := hts (.fieldLink RX7 80 "MeshFieldModel" "turnNumber" "[I") (by decide +kernel)
  have f83 := hts (.fieldLink RX7 83 "MeshFieldModel" "turnTick" "[I") (by decide +kernel)
  have f41 := hts (.fieldLink RX7 41 "MeshFieldModel" "mask" "[I") (by decide +kernel)
  have hS : va_S A s.heap s.heap [] := va_S.rf
  have hl : lv_has ls 4 [(0, .ref (q 0)), (1, .int p1), (2, .int p2)] := hl
  unfold s_X7_machineOf at hsp
  refine lv_aload_n hx hb dX7_machineOf_0 rfl (lv_at hl 0 rfl) ?_
  refine lv_iload_n hx hb dX7_machineOf_1 rfl (lv_at hl 1 rfl) ?_
  obtain ⟨v1, hc2, hsp⟩ := z_b1 hsp
  refine z_callVi ⟨hx, hb, hml, hown, hts⟩ hK (c_X7_isMachine l dD cI cA q g F (p1) v1 hc2) (cwV 1 hts gX7_machineOf_X7_isMachine rfl rfl rfl (by decide +kernel) ⟨Nat.le_of_ble_eq_true rfl, Nat.le_of_ble_eq_true rfl⟩) (zJ.full hP hD hS hA) hS 0 7 rfl rfl rfl rfl hl.1 rfl (Nat.le_of_ble_eq_true rfl) dX7_machineOf_2 ⟨Nat.zero_le _, Nat.zero_le _⟩ (fun H locs hP hD hS => ?_)
  refine lv_if_ne (tgt := 10) hx hb dX7_machineOf_5 (by decide) (fun c3 => ?_) (fun c3 => ?_)
  · have hsp := z_f c3 hsp
    refine lv_iload_n hx hb dX7_machineOf_10 rfl (lv_at hl 2 rfl) ?_
    refine lv_bipush (v := 100) hx hb dX7_machineOf_11 (by decide) ?_
    refine lv_icmp_lt (tgt := 46) hx hb dX7_machineOf_13 (by decide) (fun c4 => ?_) (fun c4 => ?_)
    · have hsp := z_t c4 hsp
      refine lv_iload_n hx hb dX7_machineOf_46 rfl (lv_at hl 2 rfl) ?_
      by_cases c5 : p2 = 0
      · have hsp := z_t c5 hsp
        refine lv_tableIn (tgt := 128) (off := 81) hx hb dX7_machineOf_47 (by rw [c5]; decide) (by rw [c5]; decide) (by rw [c5]; rfl) (by decide) ?_
        refine lv_aload_n hx hb dX7_machineOf_128 rfl (lv_at hl 0 rfl) ?_
        refine va_get (D := dD) (ci := 7) (v := .ref (q 11)) (C := RX7) (T := TX7) (N := 41) hx hb hts iX7 hown hK.1 hP 0 rfl rfl 11 (by decide) f32 (fun _ h9 => h9) rfl dX7_machineOf_129 ?_
        refine lv_iload_n hx hb dX7_machineOf_132 rfl (lv_at hl 1 rfl) ?_
        obtain ⟨h6, hsp⟩ := z_in hsp
        refine va_iald hx hb hK.1 hP 3 0 rfl rfl h6 dX7_machineOf_133 ?_
        obtain rfl := Option.some.inj hsp
        exact hret _ _ ls 134 dX7_machineOf_134 rfl hP hD hS
      have hsp := z_f c5 hsp
      by_cases c7 : p2 = 1
      · have hsp := z_t c7 hsp
        refine lv_tableIn (tgt := 135) (off := 88) hx hb dX7_machineOf_47 (by rw [c7]; decide) (by rw [c7]; decide) (by rw [c7]; rfl) (by decide) ?_
        refine lv_aload_n hx hb dX7_machineOf_135 rfl (lv_at hl 0 rfl) ?_
        refine va_get (D := dD) (ci := 7) (v := .ref (q 12)) (C := RX7) (T := TX7) (N := 41) hx hb hts iX7 hown hK.1 hP 0 rfl rfl 12 (by decide) f35 (fun _ h9 => h9) rfl dX7_machineOf_136 ?_
        refine lv_iload_n hx hb dX7_machineOf_139 rfl (lv_at hl 1 rfl) ?_
        obtain ⟨h8, hsp⟩ := z_in hsp
        refine va_iald hx hb hK.1 hP 4 0 rfl rfl h8 dX7_machineOf_140 ?_
        obtain rfl := Option.some.inj hsp
        exact hret _ _ ls 141 dX7_machineOf_141 rfl hP hD hS
      have hsp := z_f c7 hsp
      by_cases c9 : p2 = 2
      · have hsp := z_t c9 hsp
        refine lv_tableIn (tgt := 142) (off := 95) hx hb dX7_machineOf_47 (by rw [c9]; decide) (by rw [c9]; decide) (by rw [c9]; rfl) (by decide) ?_
        refine lv_aload_n hx hb dX7_machineOf_142 rfl (lv_at hl 0 rfl) ?_
        refine lv_iload_n hx hb dX7_machineOf_143 rfl (lv_at hl 1 rfl) ?_
        obtain ⟨v10, hc11, hsp⟩ := z_b1 hsp
        refine z_callVi ⟨hx, hb, hml, hown, hts⟩ hK (c_X7_rank l dD cI cA q g F (p1) v10 hc11) (cwV 1 hts gX7_machineOf_X7_rank rfl rfl rfl (by decide +kernel) ⟨Nat.le_of_ble_eq_true rfl, Nat.le_of_ble_eq_true rfl⟩) (zJ.full hP hD hS hA) hS 0 7 rfl rfl rfl rfl hl.1 rfl (Nat.le_of_ble_eq_true rfl) dX7_machineOf_144 ⟨Nat.zero_le _, Nat.zero_le _⟩ (fun H locs hP hD hS => ?_)
        obtain rfl := Option.some.inj hsp
        exact hret _ _ ls 147 dX7_machineOf_147 rfl hP hD hS
      have hsp := z_f c9 hsp
      by_cases c12 : p2 = 3
      · have hsp := z_t c12 hsp
        refine lv_tableIn (tgt := 148) (off := 101) hx hb dX7_machineOf_47 (by rw [c12]; decide) (by rw [c12]; decide) (by rw [c12]; rfl) (by decide) ?_
        refine lv_aload_n hx hb dX7_machineOf_148 rfl (lv_at hl 0 rfl) ?_
        refine lv_iload_n hx hb dX7_machineOf_149 rfl (lv_at hl 1 rfl) ?_
        obtain ⟨v13, hc14, hsp⟩ := z_b1 hsp
        refine z_callVi ⟨hx, hb, hml, hown, hts⟩ hK (c_X7_isWhole l dD cI cA q g F (p1) v13 hc14) (cwV 1 hts gX7_machineOf_X7_isWhole rfl rfl rfl (by decide +kernel) ⟨Nat.le_of_ble_eq_true rfl, Nat.le_of_ble_eq_true rfl⟩) (zJ.full hP hD hS hA) hS 0 7 rfl rfl rfl rfl hl.1 rfl (Nat.le_of_ble_eq_true rfl) dX7_machineOf_150 ⟨Nat.zero_le _, Nat.zero_le _⟩ (fun H locs hP hD hS => ?_)
        refine lv_if_eq (tgt := 160) hx hb dX7_machineOf_153 (by decide) (fun c15 => ?_) (fun c15 => ?_)
        · have hsp := z_t c15 hsp
          refine lv_iconst (v := 0) hx hb dX7_machineOf_160 (by decide) ?_
          obtain rfl := Option.some.inj hsp
          exact hret _ _ ls 161 dX7_machineOf_161 rfl hP hD hS
        · have hsp := z_f c15 hsp
          refine lv_iconst (v := 1) hx hb dX7_machineOf_156 (by decide) ?_
          refine lv_goto (tgt := 161) hx hb dX7_machineOf_157 (by decide) ?_
          obtain rfl := Option.some.inj hsp
          exact hret _ _ ls 161 dX7_machineOf_161 rfl hP hD hS
      have hsp := z_f c12 hsp
      by_cases c16 : p2 = 4
      · have hsp := z_t c16 hsp
        refine lv_tableIn (tgt := 162) (off := 115) hx hb dX7_machineOf_47 (by rw [c16]; decide) (by rw [c16]; decide) (by rw [c16]; rfl) (by decide) ?_
        refine lv_aload_n hx hb dX7_machineOf_162 rfl (lv_at hl 0 rfl) ?_
        refine va_get (D := dD) (ci := 7) (v := .ref (q 16)) (C := RX7) (T := TX7) (N := 41) hx hb hts iX7 hown hK.1 hP 0 rfl rfl 16 (by decide) f47 (fun _ h9 => h9) rfl dX7_machineOf_163 ?_
        refine lv_iload_n hx hb dX7_machineOf_166 rfl (lv_at hl 1 rfl) ?_
        obtain ⟨h17, hsp⟩ := z_in hsp
        refine va_iald hx hb hK.1 hP 8 0 rfl rfl h17 dX7_machineOf_167 ?_
        obtain rfl := Option.some.inj hsp
        exact hret _ _ ls 168 dX7_machineOf_168 rfl hP hD hS
      have hsp := z_f c16 hsp
      by_cases c18 : p2 = 5
      · have hsp := z_t c18 hsp
        refine lv_tableIn (tgt := 169) (off := 122) hx hb dX7_machineOf_47 (by rw [c18]; decide) (by rw [c18]; decide) (by rw [c18]; rfl) (by decide) ?_
        refine lv_aload_n hx hb dX7_machineOf_169 rfl (lv_at hl 0 rfl) ?_
        refine va_get (D := dD) (ci := 7) (v := .ref (q 17)) (C := RX7) (T := TX7) (N := 41) hx hb hts iX7 hown hK.1 hP 0 rfl rfl 17 (by decide) f50 (fun _ h9 => h9) rfl dX7_machineOf_170 ?_
        refine lv_iload_n hx hb dX7_machineOf_173 rfl (lv_at hl 1 rfl) ?_
        obtain ⟨h19, hsp⟩ := z_in hsp
        refine va_iald hx hb hK.1 hP 9 0 rfl rfl h19 dX7_machineOf_174 ?_
        obtain rfl := Option.some.inj hsp
        exact hret _ _ ls 175 dX7_machineOf_175 rfl hP hD hS
      have hsp := z_f c18 hsp
      by_cases c20 : p2 = 6
      · have hsp := z_t c20 hsp
        refine lv_tableIn (tgt := 176) (off := 129) hx hb dX7_machineOf_47 (by rw [c20]; decide) (by rw [c20]; decide) (by rw [c20]; rfl) (by decide) ?_
        refine lv_aload_n hx hb dX7_machineOf_176 rfl (lv_at hl 0 rfl) ?_
        refine va_get (D := dD) (ci := 7) (v := .ref (q 18)) (C := RX7) (T := TX7) (N := 41) hx hb hts iX7 hown hK.1 hP 0 rfl rfl 18 (by decide) f53 (fun _ h9 => h9) rfl dX7_machineOf_177 ?_
        refine lv_iload_n hx hb dX7_machineOf_180 rfl (lv_at hl 1 rfl) ?_
        obtain ⟨h21, hsp⟩ := z_in hsp
        refine va_iald hx hb hK.1 hP 10 0 rfl rfl h21 dX7_machineOf_181 ?_
        obtain rfl := Option.some.inj hsp
        exact hret _ _ ls 182 dX7_machineOf_182 rfl hP hD hS
      have hsp := z_f c20 hsp
      by_cases c22 : p2 = 7
      · have hsp := z_t c22 hsp
        refine lv_tableIn (tgt := 183) (off := 136) hx hb dX7_machineOf_47 (by rw [c22]; decide) (by rw [c22]; decide) (by rw [c22]; rfl) (by decide) ?_
        refine lv_aload_n hx hb dX7_machineOf_183 rfl (lv_at hl 0 rfl) ?_
        refine va_get (D := dD) (ci := 7) (v := .ref (q 19)) (C := RX7) (T := TX7) (N := 41) hx hb hts iX7 hown hK.1 hP 0 rfl rfl 19 (by decide) f56 (fun _ h9 => h9) rfl dX7_machineOf_184 ?_
        refine lv_iload_n hx hb dX7_machineOf_187 rfl (lv_at hl 1 rfl) ?_
        obtain ⟨h23, hsp⟩ := z_in hsp
        refine va_iald hx hb hK.1 hP 11 0 rfl rfl h23 dX7_machineOf_188 ?_
        obtain rfl := Option.some.inj hsp
        exact hret _ _ ls 189 dX7_machineOf_189 rfl hP hD hS
      have hsp := z_f c22 hsp
      by_cases c24 : p2 = 8
      · have hsp := z_t c24 hsp
        refine lv_tableIn (tgt := 190) (off := 143) hx hb dX7_machineOf_47 (by rw [c24]; decide) (by rw [c24]; decide) (by rw [c24]; rfl) (by decide) ?_
        refine lv_aload_n hx hb dX7_machineOf_190 rfl (lv_at hl 0 rfl) ?_
        refine va_get (D := dD) (ci := 7) (v := .ref (q 20)) (C := RX7) (T := TX7) (N := 41) hx hb hts iX7 hown hK.1 hP 0 rfl rfl 20 (by decide) f59 (fun _ h9 => h9) rfl dX7_machineOf_191 ?_
        refine lv_iload_n hx hb dX7_machineOf_194 rfl (lv_at hl 1 rfl) ?_
        obtain ⟨h25, hsp⟩ := z_in hsp
        refine va_iald hx hb hK.1 hP 12 0 rfl rfl h25 dX7_machineOf_195 ?_
        obtain rfl := Option.some.inj hsp
        exact hret _ _ ls 196 dX7_machineOf_196 rfl hP hD hS
      have hsp := z_f c24 hsp
      by_cases c26 : p2 = 9
      · have hsp := z_t c26 hsp
        refine lv_tableIn (tgt := 197) (off := 150) hx hb dX7_machineOf_47 (by rw [c26]; decide) (by rw [c26]; decide) (by rw [c26]; rfl) (by decide) ?_
        refine lv_aload_n hx hb dX7_machineOf_197 rfl (lv_at hl 0 rfl) ?_
        refine va_get (D := dD) (ci := 7) (v := .ref (q 21)) (C := RX7) (T := TX7) (N := 41) hx hb hts iX7 hown hK.1 hP 0 rfl rfl 21 (by decide) f62 (fun _ h9 => h9) rfl dX7_machineOf_198 ?_
        refine lv_iload_n hx hb dX7_machineOf_201 rfl (lv_at hl 1 rfl) ?_
        obtain ⟨h27, hsp⟩ := z_in hsp
        refine va_iald hx hb hK.1 hP 13 0 rfl rfl h27 dX7_machineOf_202 ?_
        obtain rfl := Option.some.inj hsp
        exact hret _ _ ls 203 dX7_machineOf_203 rfl hP hD hS
      have hsp := z_f c26 hsp
      by_cases c28 : p2 = 10
      · have hsp := z_t c28 hsp
        refine lv_tableIn (tgt := 204) (off := 157) hx hb dX7_machineOf_47 (by rw [c28]; decide) (by rw [c28]; decide) (by rw [c28]; rfl) (by decide) ?_
        refine lv_aload_n hx hb dX7_machineOf_204 rfl (lv_at hl 0 rfl) ?_
        refine va_get (D := dD) (ci := 7) (v := .ref (q 22)) (C := RX7) (T := TX7) (N := 41) hx hb hts iX7 hown hK.1 hP 0 rfl rfl 22 (by decide) f65 (fun _ h9 => h9) rfl dX7_machineOf_205 ?_
        refine lv_iload_n hx hb dX7_machineOf_208 rfl (lv_at hl 1 rfl) ?_
        obtain ⟨h29, hsp⟩ := z_in hsp
        refine va_iald hx hb hK.1 hP 14 0 rfl rfl h29 dX7_machineOf_209 ?_
        obtain rfl := Option.some.inj hsp
        exact hret _ _ ls 210 dX7_machineOf_210 rfl hP hD hS
      have hsp := z_f c28 hsp
      by_cases c30 : p2 = 11
      · have hsp := z_t c30 hsp
        refine lv_tableIn (tgt := 211) (off := 164) hx hb dX7_machineOf_47 (by rw [c30]; decide) (by rw [c30]; decide) (by rw [c30]; rfl) (by decide) ?_
        refine lv_aload_n hx hb dX7_machineOf_211 rfl (lv_at hl 0 rfl) ?_
        refine va_get (D := dD) (ci := 7) (v := .ref (q 23)) (C := RX7) (T := TX7) (N := 41) hx hb hts iX7 hown hK.1 hP 0 rfl rfl 23 (by decide) f68 (fun _ h9 => h9) rfl dX7_machineOf_212 ?_
        refine lv_iload_n hx hb dX7_machineOf_215 rfl (lv_at hl 1 rfl) ?_
        obtain ⟨h31, hsp⟩ := z_in hsp
        refine va_iald hx hb hK.1 hP 15 0 rfl rfl h31 dX7_machineOf_216 ?_
        obtain rfl := Option.some.inj hsp
        exact hret _ _ ls 217 dX7_machineOf_217 rfl hP hD hS
      have hsp := z_f c30 hsp
      by_cases c32 : p2 = 12
      · have hsp := z_t c32 hsp
        refine lv_tableIn (tgt := 218) (off := 171) hx hb dX7_machineOf_47 (by rw [c32]; decide) (by rw [c32]; decide) (by rw [c32]; rfl) (by decide) ?_
        refine lv_aload_n hx hb dX7_machineOf_218 rfl (lv_at hl 0 rfl) ?_
        refine va_get (D := dD) (ci := 7) (v := .ref (q 24)) (C := RX7) (T := TX7) (N := 41) hx hb hts iX7 hown hK.1 hP 0 rfl rfl 24 (by decide) f71 (fun _ h9 => h9) rfl dX7_machineOf_219 ?_
        refine lv_iload_n hx hb dX7_machineOf_222 rfl (lv_at hl 1 rfl) ?_
        obtain ⟨h33, hsp⟩ := z_in hsp
        refine va_iald hx hb hK.1 hP 16 0 rfl rfl h33 dX7_machineOf_223 ?_
        obtain rfl := Option.some.inj hsp
        exact hret _ _ ls 224 dX7_machineOf_224 rfl hP hD hS
      have hsp := z_f c32 hsp
      by_cases c34 : p2 = 13
      · have hsp := z_t c34 hsp
        refine lv_tableIn (tgt := 225) (off := 178) hx hb dX7_machineOf_47 (by rw [c34]; decide) (by rw [c34]; decide) (by rw [c34]; rfl) (by decide) ?_
        refine lv_aload_n hx hb dX7_machineOf_225 rfl (lv_at hl 0 rfl) ?_
        refine va_get (D := dD) (ci := 7) (v := .ref (q 25)) (C := RX7) (T := TX7) (N := 41) hx hb hts iX7 hown hK.1 hP 0 rfl rfl 25 (by decide) f74 (fun _ h9 => h9) rfl dX7_machineOf_226 ?_
        refine lv_iload_n hx hb dX7_machineOf_229 rfl (lv_at hl 1 rfl) ?_
        obtain ⟨h35, hsp⟩ := z_in hsp
        refine va_iald hx hb hK.1 hP 17 0 rfl rfl h35 dX7_machineOf_230 ?_
        obtain rfl := Option.some.inj hsp
        exact hret _ _ ls 231 dX7_machineOf_231 rfl hP hD hS
      have hsp := z_f c34 hsp
      by_cases c36 : p2 = 14
      · have hsp := z_t c36 hsp
        refine lv_tableIn (tgt := 232) (off := 185) hx hb dX7_machineOf_47 (by rw [c36]; decide) (by rw [c36]; decide) (by rw [c36]; rfl) (by decide) ?_
        refine lv_aload_n hx hb dX7_machineOf_232 rfl (lv_at hl 0 rfl) ?_
        refine va_get (D := dD) (ci := 7) (v := .ref (q 26)) (C := RX7) (T := TX7) (N := 41) hx hb hts iX7 hown hK.1 hP 0 rfl rfl 26 (by decide) f77 (fun _ h9 => h9) rfl dX7_machineOf_233 ?_
        refine lv_iload_n hx hb dX7_machineOf_236 rfl (lv_at hl 1 rfl) ?_
        obtain ⟨h37, hsp⟩ := z_in hsp
        refine va_iald hx hb hK.1 hP 18 0 rfl rfl h37 dX7_machineOf_237 ?_
        obtain rfl := Option.some.inj hsp
        exact hret _ _ ls 238 dX7_machineOf_238 rfl hP hD hS
      have hsp := z_f c36 hsp
      by_cases c38 : p2 = 15
      · have hsp := z_t c38 hsp
        refine lv_tableIn (tgt := 239) (off := 192) hx hb dX7_machineOf_47 (by rw [c38]; decide) (by rw [c38]; decide) (by rw [c38]; rfl) (by decide) ?_
        refine lv_aload_n hx hb dX7_machineOf_239 rfl (lv_at hl 0 rfl) ?_
        refine va_get (D := dD) (ci := 7) (v := .ref (q 27)) (C := RX7) (T := TX7) (N := 41) hx hb hts iX7 hown hK.1 hP 0 rfl rfl 27 (by decide) f80 (fun _ h9 => h9) rfl dX7_machineOf_240 ?_
        refine lv_iload_n hx hb dX7_machineOf_243 rfl (lv_at hl 1 rfl) ?_
        obtain ⟨h39, hsp⟩ := z_in hsp
        refine va_iald hx hb hK.1 hP 19 0 rfl rfl h39 dX7_machineOf_244 ?_
        obtain rfl := Option.some.inj hsp
        exact hret _ _ ls 245 dX7_machineOf_245 rfl hP hD hS
      have hsp := z_f c38 hsp
      by_cases c40 : p2 = 16
      · have hsp := z_t c40 hsp
        refine lv_tableIn (tgt := 246) (off := 199) hx hb dX7_machineOf_47 (by rw [c40]; decide) (by rw [c40]; decide) (by rw [c40]; rfl) (by decide) ?_
        refine lv_aload_n hx hb dX7_machineOf_246 rfl (lv_at hl 0 rfl) ?_
        refine va_get (D := dD) (ci := 7) (v := .ref (q 28)) (C := RX7) (T := TX7) (N := 41) hx hb hts iX7 hown hK.1 hP 0 rfl rfl 28 (by decide) f83 (fun _ h9 => h9) rfl dX7_machineOf_247 ?_
        refine lv_iload_n hx hb dX7_machineOf_250 rfl (lv_at hl 1 rfl) ?_
        obtain ⟨h41, hsp⟩ := z_in hsp
        refine va_iald hx hb hK.1 hP 20 0 rfl rfl h41 dX7_machineOf_251 ?_
        obtain rfl := Option.some.inj hsp
        exact hret _ _ ls 252 dX7_machineOf_252 rfl hP hD hS
      have hsp := z_f c40 hsp
      refine lv_tableOut (tgt := 253) hx hb dX7_machineOf_47 (by have g0 := lv_neT (a := 0) c5 rfl; have g1 := lv_neT (a := 1) c7 rfl; have g2 := lv_neT (a := 2) c9 rfl; have g3 := lv_neT (a := 3) c12 rfl; have g4 := lv_neT (a := 4) c16 rfl; have g5 := lv_neT (a := 5) c18 rfl; have g6 := lv_neT (a := 6) c20 rfl; have g7 := lv_neT (a := 7) c22 rfl; have g8 := lv_neT (a := 8) c24 rfl; have g9 := lv_neT (a := 9) c26 rfl; have g10 := lv_neT (a := 10) c28 rfl; have g11 := lv_neT (a := 11) c30 rfl; have g12 := lv_neT (a := 12) c32 rfl; have g13 := lv_neT (a := 13) c34 rfl; have g14 := lv_neT (a := 14) c36 rfl; have g15 := lv_neT (a := 15) c38 rfl; have g16 := lv_neT (a := 16) c40 rfl; omega) (by decide) ?_
      refine lv_iconst (v := (-1)) hx hb dX7_machineOf_253 (by decide) ?_
      obtain rfl := Option.some.inj hsp
      exact hret _ _ ls 254 dX7_machineOf_254 rfl hP hD hS
    · have hsp := z_f c4 hsp
      refine lv_aload_n hx hb dX7_machineOf_16 rfl (lv_at hl 0 rfl) ?_
      refine lv_iload_n hx hb dX7_machineOf_17 rfl (lv_at hl 1 rfl) ?_
      refine lv_iload_n hx hb dX7_machineOf_18 rfl (lv_at hl 2 rfl) ?_
      refine lv_bipush (v := 100) hx hb dX7_machineOf_19 (by decide) ?_
      refine lv_isub hx hb dX7_machineOf_21 ?_
      obtain ⟨v42, hc43, hsp⟩ := z_b1 hsp
      refine z_callVi ⟨hx, hb, hml, hown, hts⟩ hK (c_X7_headOf l dD cI cA q g F (p1) ((p2 - 100)) v42 hc43) (cwV 2 hts gX7_machineOf_X7_headOf rfl rfl rfl (by decide +kernel) ⟨Nat.le_of_ble_eq_true rfl, Nat.le_of_ble_eq_true rfl⟩) (zJ.full hP hD hS hA) hS 0 7 rfl rfl rfl rfl hl.1 rfl (Nat.le_of_ble_eq_true rfl) dX7_machineOf_22 ⟨Nat.zero_le _, Nat.zero_le _⟩ (fun H locs hP hD hS => ?_)
      refine lv_istore_n (lv' := [(3, .int v42), (0, .ref (q 0)), (1, .int p1), (2, .int p2)]) hx hb dX7_machineOf_25 rfl hl (by decide) rfl (fun ls hl => ?_)
      refine lv_iload_n hx hb dX7_machineOf_26 rfl (lv_at hl 0 rfl) ?_
      refine lv_if_ge (tgt := 34) hx hb dX7_machineOf_27 (by decide) (fun c44 => ?_) (fun c44 => ?_)
      · have hsp := z_t c44 hsp
        refine lv_aload_n hx hb dX7_machineOf_34 rfl (lv_at hl 1 rfl) ?_
        refine va_get (D := dD) (ci := 7) (v := .ref (q 14)) (C := RX7) (T := TX7) (N := 41) hx hb hts iX7 hown hK.1 hP 0 rfl rfl 14 (by decide) f41 (fun _ h9 => h9) rfl dX7_machineOf_35 ?_
        refine lv_bipush (v := 12) hx hb dX7_machineOf_38 (by decide) ?_
        refine lv_iload_n hx hb dX7_machineOf_40 rfl (lv_at hl 2 rfl) ?_
        refine lv_imul hx hb dX7_machineOf_41 ?_
        refine lv_iload_n hx hb dX7_machineOf_42 rfl (lv_at hl 0 rfl) ?_
        refine lv_iadd hx hb dX7_machineOf_43 ?_
        obtain ⟨h45, hsp⟩ := z_in hsp
        refine va_iald hx hb hK.1 hP 6 0 rfl rfl h45 dX7_machineOf_44 ?_
        obtain rfl := Option.some.inj hsp
        exact hret _ _ ls 45 dX7_machineOf_45 rfl hP hD hS
      · have hsp := z_f c44 hsp
        refine lv_iconst (v := (-1)) hx hb dX7_machineOf_30 (by decide) ?_
        refine lv_goto (tgt := 45) hx hb dX7_machineOf_31 (by decide) ?_
        obtain rfl := Option.some.inj hsp
        exact hret _ _ ls 45 dX7_machineOf_45 rfl hP hD hS
  · have hsp := z_t c3 hsp
    refine lv_iconst (v := (-1)) hx hb dX7_machineOf_8 (by decide) ?_
    obtain rfl := Option.some.inj hsp
    exact hret _ _ ls 9 dX7_machineOf_9 rfl hP hD hS
def s_X7_data_b18 (g : zF) (F : Nat → zF) (lo1 : Int32) (t0 : Int32) : Option Int32 := (if 0 ≤ t0 then if ((12 * lo1) + t0) < 0 ∨ 144 ≤ (((12 * lo1) + t0)).toNatClampNeg then none else some (((F 15) (((12 * lo1) + t0)).toNatClampNeg)) else some (0))
def s_X7_data (g : zF) (F : Nat → zF) (p1 : Int32) (p2 : Int32) : Option Int32 := zb1 (s_X7_isMachine g F (p1)) fun (v1 : Int32) => (if v1 = 0 then (s_X7_data_b18 g F (p1) ((-1))) else zb1 (s_X7_headOf g F (p1) (p2)) fun (v6 : Int32) => (s_X7_data_b18 g F (p1) (v6)))
abbrev rm_X7_data : Room := { frames := 2, cells := 0, slots := 0, locals := 43 }
set_option maxHeartbeats 4000000 in
set_option maxRecDepth 100000 in
theorem c_X7_data (l : Launch) (dD : va_G) (cI cA : ClassId) (q : Nat → Nat) (g : zF) (F : Nat → zF) (p1 : Int32) (p2 : Int32) (rv : Int32) (hsp : s_X7_data g F p1 p2 = some rv) : zMi l yX7_data wsX7_data rm_X7_data dD cI cA [.ref (q 0), .int p1, .int p2] (zQ cI q g F) (zQ cI q g F) rv := by
  refine zMi_of (cc := cX7_data) (maxL := 4) (by decide) rfl (Nat.le_of_ble_eq_true rfl) ?_
  intro p e s m args below meth c A Q ls hx hb hml hown hts hK hA hP hD hl hret
  have hown : s.vm.findClass RX7 = some m.cls := hown
  have iX7 : ∀ w ∈ wsX70, w ∈ wsX7_data := by decide +kernel
  have f44 := hts (.fieldLink RX7 44 "MeshFieldModel" "data" "[I") (by decide +kernel)
  have hS : va_S A s.heap s.heap [] := va_S.rf
  have hl : lv_has ls 4 [(0, .ref (q 0)), (1, .int p1), (2, .int p2)] := hl
  have K_18 : ∀ (H : Heap) (locs : List Loc) (ls : Array Slot) (lo1 : Int32) (t0 : Int32), va_P dD vwCl (zQ cI q g F) H → va_D A (zQ cI q g F) → va_S A s.heap H locs → lv_has ls 4 [(0, .ref (q 0)), (1, .int lo1)] → s_X7_data_b18 g F lo1 t0 = some rv → W p l e rm_X7_data s m args below meth c H locs 0 0 Q (F0 m 18 ls [.int t0]) := by
    intro H locs ls lo1 t0 hP hD hS hl hsp
    unfold s_X7_data_b18 at hsp
    refine lv_istore_n (lv' := [(3, .int t0), (0, .ref (q 0)), (1, .int lo1)]) hx hb dX7_data_18 rfl hl (by decide) rfl (fun ls hl => ?_)
    refine lv_iload_n hx hb dX7_data_19 rfl (lv_at hl 0 rfl) ?_
    refine lv_if_ge (tgt := 27) hx hb dX7_data_20 (by decide) (fun c4 => ?_) (fun c4 => ?_)
    · have hsp := z_t c4 hsp
      refine lv_aload_n hx hb dX7_data_27 rfl (lv_at hl 1 rfl) ?_
      refine va_get (D := dD) (ci := 7) (v := .ref (q 15)) (C := RX7) (T := TX7) (N := 41) hx hb hts iX7 hown hK.1 hP 0 rfl rfl 15 (by decide) f44 (fun _ h9 => h9) rfl dX7_data_28 ?_
      refine lv_bipush (v := 12) hx hb dX7_data_31 (by decide) ?_
      refine lv_iload_n hx hb dX7_data_33 rfl (lv_at hl 2 rfl) ?_
      refine lv_imul hx hb dX7_data_34 ?_
      refine lv_iload_n hx hb dX7_data_35 rfl (lv_at hl 0 rfl) ?_
      refine lv_iadd hx hb dX7_data_36 ?_
      obtain ⟨h5, hsp⟩ := z_in hsp
      refine va_iald hx hb hK.1 hP 7 0 rfl rfl h5 dX7_data_37 ?_
      obtain rfl := Option.some.inj hsp
      exact hret _ _ ls 38 dX7_data_38 rfl hP hD hS
    · have hsp := z_f c4 hsp
      refine lv_iconst (v := 0) hx hb dX7_data_23 (by decide) ?_
      refine lv_goto (tgt := 38) hx hb dX7_data_24 (by decide) ?_
      obtain rfl := Option.some.inj hsp
      exact hret _ _ ls 38 dX7_data_38 rfl hP hD hS
  unfold s_X7_data at hsp
  refine lv_aload_n hx hb dX7_data_0 rfl (lv_at hl 0 rfl) ?_
  refine lv_iload_n hx hb dX7_data_1 rfl (lv_at hl 1 rfl) ?_
  obtain ⟨v1, hc2, hsp⟩ := z_b1 hsp
  refine z_callVi ⟨hx, hb, hml, hown, hts⟩ hK (c_X7_isMachine l dD cI cA q g F (p1) v1 hc2) (cwV 1 hts gX7_data_X7_isMachine rfl rfl rfl (by decide +kernel) ⟨Nat.le_of_ble_eq_true rfl, Nat.le_of_ble_eq_true rfl⟩) (zJ.full hP hD hS hA) hS 0 7 rfl rfl rfl rfl hl.1 rfl (Nat.le_of_ble_eq_true rfl) dX7_data_2 ⟨Nat.zero_le _, Nat.zero_le _⟩ (fun H locs hP hD hS => ?_)
  refine lv_if_eq (tgt := 17) hx hb dX7_data_5 (by decide) (fun c3 => ?_) (fun c3 => ?_)
  · have hsp := z_t c3 hsp
    refine lv_iconst (v := (-1)) hx hb dX7_data_17 (by decide) ?_
    exact K_18 _ _ ls (p1) ((-1)) hP hD hS (lv_sub hl [0, 1] rfl) hsp
  · have hsp := z_f c3 hsp
    refine lv_aload_n hx hb dX7_data_8 rfl (lv_at hl 0 rfl) ?_
    refine lv_iload_n hx hb dX7_data_9 rfl (lv_at hl 1 rfl) ?_
    refine lv_iload_n hx hb dX7_data_10 rfl (lv_at hl 2 rfl) ?_
    obtain ⟨v6, hc7, hsp⟩ := z_b1 hsp
    refine z_callVi ⟨hx, hb, hml, hown, hts⟩ hK (c_X7_headOf l dD cI cA q g F (p1) (p2) v6 hc7) (cwV 2 hts gX7_data_X7_headOf rfl rfl rfl (by decide +kernel) ⟨Nat.le_of_ble_eq_true rfl, Nat.le_of_ble_eq_true rfl⟩) (zJ.full hP hD hS hA) hS 0 7 rfl rfl rfl rfl hl.1 rfl (Nat.le_of_ble_eq_true rfl) dX7_data_11 ⟨Nat.zero_le _, Nat.zero_le _⟩ (fun H locs hP hD hS => ?_)
    refine lv_goto (tgt := 18) hx hb dX7_data_14 (by decide) ?_
    exact K_18 _ _ ls (p1) (v6) hP hD hS (lv_sub hl [0, 1] rfl) hsp
def s_X7_sum (g : zF) (F : Nat → zF) (p1 : Int32) : Option Int32 := zb1 (s_X7_isMachine g F (p1)) fun (v1 : Int32) => (if v1 = 0 then some (0) else if p1 < 0 ∨ 12 ≤ (p1).toNatClampNeg then none else some (((F 13) (p1).toNatClampNeg)))
abbrev rm_X7_sum : Room := { frames := 2, cells := 0, slots := 0, locals := 43 }
set_option maxHeartbeats 4000000 in
set_option maxRecDepth 100000 in
theorem c_X7_sum (l : Launch) (dD : va_G) (cI cA : ClassId) (q : Nat → Nat) (g : zF) (F : Nat → zF) (p1 : Int32) (rv : Int32) (hsp : s_X7_sum g F p1 = some rv) : zMi l yX7_sum wsX7_sum rm_X7_sum dD cI cA [.ref (q 0), .int p1] (zQ cI q g F) (zQ cI q g F) rv := by
  refine zMi_of (cc := cX7_sum) (maxL := 2) (by decide) rfl (Nat.le_of_ble_eq_true rfl) ?_
  intro p e s m args below meth c A Q ls hx hb hml hown hts hK hA hP hD hl hret
  have hown : s.vm.findClass RX7 = some m.cls := hown
  have iX7 : ∀ w ∈ wsX70, w ∈ wsX7_sum := by decide +kernel
  have f38 := hts (.fieldLink RX7 38 "MeshFieldModel" "sum" "[I") (by decide +kernel)
  have hS : va_S A s.heap s.heap [] := va_S.rf
  have hl : lv_has ls 2 [(0, .ref (q 0)), (1, .int p1)] := hl
  unfold s_X7_sum at hsp
  refine lv_aload_n hx hb dX7_sum_0 rfl (lv_at hl 0 rfl) ?_
  refine lv_iload_n hx hb dX7_sum_1 rfl (lv_at hl 1 rfl) ?_
  obtain ⟨v1, hc2, hsp⟩ := z_b1 hsp
  refine z_callVi ⟨hx, hb, hml, hown, hts⟩ hK (c_X7_isMachine l dD cI cA q g F (p1) v1 hc2) (cwV 1 hts gX7_sum_X7_isMachine rfl rfl rfl (by decide +kernel) ⟨Nat.le_of_ble_eq_true rfl, Nat.le_of_ble_eq_true rfl⟩) (zJ.full hP hD hS hA) hS 0 7 rfl rfl rfl rfl hl.1 rfl (Nat.le_of_ble_eq_true rfl) dX7_sum_2 ⟨Nat.zero_le _, Nat.zero_le _⟩ (fun H locs hP hD hS => ?_)
  refine lv_if_eq (tgt := 17) hx hb dX7_sum_5 (by decide) (fun c3 => ?_) (fun c3 => ?_)
  · have hsp := z_t c3 hsp
    refine lv_iconst (v := 0) hx hb dX7_sum_17 (by decide) ?_
    obtain rfl := Option.some.inj hsp
    exact hret _ _ ls 18 dX7_sum_18 rfl hP hD hS
  · have hsp := z_f c3 hsp
    refine lv_aload_n hx hb dX7_sum_8 rfl (lv_at hl 0 rfl) ?_
    refine va_get (D := dD) (ci := 7) (v := .ref (q 13)) (C := RX7) (T := TX7) (N := 41) hx hb hts iX7 hown hK.1 hP 0 rfl rfl 13 (by decide) f38 (fun _ h9 => h9) rfl dX7_sum_9 ?_
    refine lv_iload_n hx hb dX7_sum_12 rfl (lv_at hl 1 rfl) ?_
    obtain ⟨h4, hsp⟩ := z_in hsp
    refine va_iald hx hb hK.1 hP 5 0 rfl rfl h4 dX7_sum_13 ?_
    refine lv_goto (tgt := 18) hx hb dX7_sum_14 (by decide) ?_
    obtain rfl := Option.some.inj hsp
    exact hret _ _ ls 18 dX7_sum_18 rfl hP hD hS
def s_X7_about_b10 (g : zF) (F : Nat → zF) : Nat → (Int32) → (Int32) → (Int32) → (Int32) → Option Int32
  | 0, _, _, _, _ => none
  | n10 + 1, lo1, lo2, lo3, lo4 => (if (g 5) ≤ lo4 then (if lo1 = 0 then some ((g 5)) else (if lo1 = 1 then some ((g 6)) else (if lo1 = 2 then some ((g 7)) else (if lo1 = 3 then some (lo3) else (if lo1 = 4 then some ((g 8)) else (if lo1 = 5 then (if lo2 = (g 29) then some ((g 30)) else some ((-1))) else some ((-1)))))))) else (if lo2 ≤ 0 then zl ((lo3 + 0)) fun (x12 : Int32) => zl (lo4 + 1) fun (x13 : Int32) => (s_X7_about_b10 g F n10 (lo1) (lo2) (x12) (x13)) else if lo4 < 0 ∨ 12 ≤ (lo4).toNatClampNeg then none else (if ((F 16) (lo4).toNatClampNeg) = lo2 then zl ((lo3 + 1)) fun (x18 : Int32) => zl (lo4 + 1) fun (x19 : Int32) => (s_X7_about_b10 g F n10 (lo1) (lo2) (x18) (x19)) else zl ((lo3 + 0)) fun (x16 : Int32) => zl (lo4 + 1) fun (x17 : Int32) => (s_X7_about_b10 g F n10 (lo1) (lo2) (x16) (x17)))))
def s_X7_about (g : zF) (F : Nat → zF) (p1 : Int32) : Option Int32 := zb1 (s_X7_greatestKept g F) fun (v1 : Int32) => (s_X7_about_b10 g F 13 (p1) (v1) (0) (0))
abbrev rm_X7_about : Room := { frames := 1, cells := 0, slots := 0, locals := 22 }
set_option maxHeartbeats 4000000 in
set_option maxRecDepth 100000 in
theorem c_X7_about (l : Launch) (dD : va_G) (cI cA : ClassId) (q : Nat → Nat) (g : zF) (F : Nat → zF) (p1 : Int32) (rv : Int32) (hsp : s_X7_about g F p1 = some rv) : zMi l yX7_about wsX7_about rm_X7_about dD cI cA [.ref (q 0), .int p1] (zQ cI q g F) (zQ cI q g F) rv := by
  refine zMi_of (cc := cX7_about) (maxL := 5) (by decide) rfl (Nat.le_of_ble_eq_true rfl) ?_
  intro p e s m args below meth c A Q ls hx hb hml hown hts hK hA hP hD hl hret
  have hown : s.vm.findClass RX7 = some m.cls := hown
  have iX7 : ∀ w ∈ wsX70, w ∈ wsX7_about := by decide +kernel
  have f119 := hts (.fieldLink RX7 119 "MeshFieldModel" "machines" "I") (by decide +kernel)
  have f131 := hts (.fieldLink RX7 131 "MeshFieldModel" "tick" "I") (by decide +kernel)
  have f166 := hts (.fieldLink RX7 166 "MeshFieldModel" "sent" "I") (by decide +kernel)
  have f142 := hts (.fieldLink RX7 142 "MeshFieldModel" "pieces" "I") (by decide +kernel)
  have f185 := hts (.fieldLink RX7 185 "MeshFieldModel" "greatest" "I") (by decide +kernel)
  have f86 := hts (.fieldLink RX7 86 "MeshFieldModel" "firstWhole" "I") (by decide +kernel)
  have f47 := hts (.fieldLink RX7 47 "MeshFieldModel" "runs" "[I") (by decide +kernel)
  have hS : va_S A s.heap s.heap [] := va_S.rf
  have hl : lv_has ls 5 [(0, .ref (q 0)), (1, .int p1)] := hl
  have K_10 : ∀ (nf : Nat) (H : Heap) (locs : List Loc) (ls : Array Slot) (lo1 : Int32) (lo2 : Int32) (lo3 : Int32) (lo4 : Int32), va_P dD vwCl (zQ cI q g F) H → va_D A (zQ cI q g F) → va_S A s.heap H locs → lv_has ls 5 [(0, .ref (q 0)), (1, .int lo1), (2, .int lo2), (3, .int lo3), (4, .int lo4)] → s_X7_about_b10 g F nf lo1 lo2 lo3 lo4 = some rv → W p l e rm_X7_about s m args below meth c H locs 0 0 Q (F0 m 10 ls []) := by
    intro nf
    induction nf with
    | zero =>
      intro H locs ls lo1 lo2 lo3 lo4 hP hD hS hl hsp
      exact absurd (show (none : Option Int32) = some rv from hsp) (fun h => by cases h)
    | succ n10 ih10 =>
      intro H locs ls lo1 lo2 lo3 lo4 hP hD hS hl hsp
      rw [s_X7_about_b10] at hsp
      refine lv_iload hx hb dX7_about_10 (lv_at hl 4 rfl) ?_
      refine lv_aload_n hx hb dX7_about_12 rfl (lv_at hl 0 rfl) ?_
      refine va_get (D := dD) (ci := 7) (v := .int (g 5)) (C := RX7) (T := TX7) (N := 41) hx hb hts iX7 hown hK.1 hP 0 rfl rfl 5 (by decide) f119 (fun _ h9 => h9) rfl dX7_about_13 ?_
      refine lv_icmp_ge (tgt := 48) hx hb dX7_about_16 (by decide) (fun c3 => ?_) (fun c3 => ?_)
      · have hsp := z_t c3 hsp
        refine lv_iload_n hx hb dX7_about_48 rfl (lv_at hl 1 rfl) ?_
        by_cases c4 : lo1 = 0
        · have hsp := z_t c4 hsp
          refine lv_tableIn (tgt := 88) (off := 39) hx hb dX7_about_49 (by rw [c4]; decide) (by rw [c4]; decide) (by rw [c4]; rfl) (by decide) ?_
          refine lv_aload_n hx hb dX7_about_88 rfl (lv_at hl 0 rfl) ?_
          refine va_get (D := dD) (ci := 7) (v := .int (g 5)) (C := RX7) (T := TX7) (N := 41) hx hb hts iX7 hown hK.1 hP 0 rfl rfl 5 (by decide) f119 (fun _ h9 => h9) rfl dX7_about_89 ?_
          obtain rfl := Option.some.inj hsp
          exact hret _ _ ls 92 dX7_about_92 rfl hP hD hS
        have hsp := z_f c4 hsp
        by_cases c5 : lo1 = 1
        · have hsp := z_t c5 hsp
          refine lv_tableIn (tgt := 93) (off := 44) hx hb dX7_about_49 (by rw [c5]; decide) (by rw [c5]; decide) (by rw [c5]; rfl) (by decide) ?_
          refine lv_aload_n hx hb dX7_about_93 rfl (lv_at hl 0 rfl) ?_
          refine va_get (D := dD) (ci := 7) (v := .int (g 6)) (C := RX7) (T := TX7) (N := 41) hx hb hts iX7 hown hK.1 hP 0 rfl rfl 6 (by decide) f131 (fun _ h9 => h9) rfl dX7_about_94 ?_
          obtain rfl := Option.some.inj hsp
          exact hret _ _ ls 97 dX7_about_97 rfl hP hD hS
        have hsp := z_f c5 hsp
        by_cases c6 : lo1 = 2
        · have hsp := z_t c6 hsp
          refine lv_tableIn (tgt := 98) (off := 49) hx hb dX7_about_49 (by rw [c6]; decide) (by rw [c6]; decide) (by rw [c6]; rfl) (by decide) ?_
          refine lv_aload_n hx hb dX7_about_98 rfl (lv_at hl 0 rfl) ?_
          refine va_get (D := dD) (ci := 7) (v := .int (g 7)) (C := RX7) (T := TX7) (N := 41) hx hb hts iX7 hown hK.1 hP 0 rfl rfl 7 (by decide) f166 (fun _ h9 => h9) rfl dX7_about_99 ?_
          obtain rfl := Option.some.inj hsp
          exact hret _ _ ls 102 dX7_about_102 rfl hP hD hS
        have hsp := z_f c6 hsp
        by_cases c7 : lo1 = 3
        · have hsp := z_t c7 hsp
          refine lv_tableIn (tgt := 103) (off := 54) hx hb dX7_about_49 (by rw [c7]; decide) (by rw [c7]; decide) (by rw [c7]; rfl) (by decide) ?_
          refine lv_iload_n hx hb dX7_about_103 rfl (lv_at hl 3 rfl) ?_
          obtain rfl := Option.some.inj hsp
          exact hret _ _ ls 104 dX7_about_104 rfl hP hD hS
        have hsp := z_f c7 hsp
        by_cases c8 : lo1 = 4
        · have hsp := z_t c8 hsp
          refine lv_tableIn (tgt := 105) (off := 56) hx hb dX7_about_49 (by rw [c8]; decide) (by rw [c8]; decide) (by rw [c8]; rfl) (by decide) ?_
          refine lv_aload_n hx hb dX7_about_105 rfl (lv_at hl 0 rfl) ?_
          refine va_get (D := dD) (ci := 7) (v := .int (g 8)) (C := RX7) (T := TX7) (N := 41) hx hb hts iX7 hown hK.1 hP 0 rfl rfl 8 (by decide) f142 (fun _ h9 => h9) rfl dX7_about_106 ?_
          obtain rfl := Option.some.inj hsp
          exact hret _ _ ls 109 dX7_about_109 rfl hP hD hS
        have hsp := z_f c8 hsp
        by_cases c9 : lo1 = 5
        · have hsp := z_t c9 hsp
          refine lv_tableIn (tgt := 110) (off := 61) hx hb dX7_about_49 (by rw [c9]; decide) (by rw [c9]; decide) (by rw [c9]; rfl) (by decide) ?_
          refine lv_iload_n hx hb dX7_about_110 rfl (lv_at hl 2 rfl) ?_
          refine lv_aload_n hx hb dX7_about_111 rfl (lv_at hl 0 rfl) ?_
          refine va_get (D := dD) (ci := 7) (v := .int (g 29)) (C := RX7) (T := TX7) (N := 41) hx hb hts iX7 hown hK.1 hP 0 rfl rfl 29 (by decide) f185 (fun _ h9 => h9) rfl dX7_about_112 ?_
          refine lv_icmp_ne (tgt := 125) hx hb dX7_about_115 (by decide) (fun c10 => ?_) (fun c10 => ?_)
          · have hsp := z_f c10 hsp
            refine lv_iconst (v := (-1)) hx hb dX7_about_125 (by decide) ?_
            obtain rfl := Option.some.inj hsp
            exact hret _ _ ls 126 dX7_about_126 rfl hP hD hS
          · have hsp := z_t c10 hsp
            refine lv_aload_n hx hb dX7_about_118 rfl (lv_at hl 0 rfl) ?_
            refine va_get (D := dD) (ci := 7) (v := .int (g 30)) (C := RX7) (T := TX7) (N := 41) hx hb hts iX7 hown hK.1 hP 0 rfl rfl 30 (by decide) f86 (fun _ h9 => h9) rfl dX7_about_119 ?_
            refine lv_goto (tgt := 126) hx hb dX7_about_122 (by decide) ?_
            obtain rfl := Option.some.inj hsp
            exact hret _ _ ls 126 dX7_about_126 rfl hP hD hS
        have hsp := z_f c9 hsp
        refine lv_tableOut (tgt := 127) hx hb dX7_about_49 (by have g0 := lv_neT (a := 0) c4 rfl; have g1 := lv_neT (a := 1) c5 rfl; have g2 := lv_neT (a := 2) c6 rfl; have g3 := lv_neT (a := 3) c7 rfl; have g4 := lv_neT (a := 4) c8 rfl; have g5 := lv_neT (a := 5) c9 rfl; omega) (by decide) ?_
        refine lv_iconst (v := (-1)) hx hb dX7_about_127 (by decide) ?_
        obtain rfl := Option.some.inj hsp
        exact hret _ _ ls 128 dX7_about_128 rfl hP hD hS
      · have hsp := z_f c3 hsp
        refine lv_iload_n hx hb dX7_about_19 rfl (lv_at hl 3 rfl) ?_
        refine lv_iload_n hx hb dX7_about_20 rfl (lv_at hl 2 rfl) ?_
        refine lv_if_le (tgt := 39) hx hb dX7_about_21 (by decide) (fun c11 => ?_) (fun c11 => ?_)
        · have hsp := z_t c11 hsp
          refine lv_iconst (v := 0) hx hb dX7_about_39 (by decide) ?_
          refine lv_iadd hx hb dX7_about_40 ?_
          obtain ⟨x12, ex12, hsp⟩ := z_lt hsp
          refine z_top ex12 ?_
          refine lv_istore_n (lv' := [(3, .int x12), (0, .ref (q 0)), (1, .int lo1), (2, .int lo2), (4, .int lo4)]) hx hb dX7_about_41 rfl hl (by decide) rfl (fun ls hl => ?_)
          obtain ⟨x13, ex13, hsp⟩ := z_lt hsp
          refine lv_iinc (v := x13) (lv' := [(4, .int x13), (3, .int x12), (0, .ref (q 0)), (1, .int lo1), (2, .int lo2)]) hx hb dX7_about_42 hl (k := 4) rfl (by rw [ex13]; rfl) (by decide) rfl (fun ls hl => ?_)
          refine lv_goto (tgt := 10) hx hb dX7_about_45 (by decide) ?_
          exact ih10 _ _ ls (lo1) (lo2) (x12) (x13) hP hD hS (lv_sub hl [2, 3, 4, 1, 0] rfl) hsp
        · have hsp := z_f c11 hsp
          refine lv_aload_n hx hb dX7_about_24 rfl (lv_at hl 0 rfl) ?_
          refine va_get (D := dD) (ci := 7) (v := .ref (q 16)) (C := RX7) (T := TX7) (N := 41) hx hb hts iX7 hown hK.1 hP 0 rfl rfl 16 (by decide) f47 (fun _ h9 => h9) rfl dX7_about_25 ?_
          refine lv_iload hx hb dX7_about_28 (lv_at hl 4 rfl) ?_
          obtain ⟨h14, hsp⟩ := z_in hsp
          refine va_iald hx hb hK.1 hP 8 0 rfl rfl h14 dX7_about_30 ?_
          refine lv_iload_n hx hb dX7_about_31 rfl (lv_at hl 2 rfl) ?_
          refine lv_icmp_ne (tgt := 39) hx hb dX7_about_32 (by decide) (fun c15 => ?_) (fun c15 => ?_)
          · have hsp := z_f c15 hsp
            refine lv_iconst (v := 0) hx hb dX7_about_39 (by decide) ?_
            refine lv_iadd hx hb dX7_about_40 ?_
            obtain ⟨x16, ex16, hsp⟩ := z_lt hsp
            refine z_top ex16 ?_
            refine lv_istore_n (lv' := [(3, .int x16), (0, .ref (q 0)), (1, .int lo1), (2, .int lo2), (4, .int lo4)]) hx hb dX7_about_41 rfl hl (by decide) rfl (fun ls hl => ?_)
            obtain ⟨x17, ex17, hsp⟩ := z_lt hsp
            refine lv_iinc (v := x17) (lv' := [(4, .int x17), (3, .int x16), (0, .ref (q 0)), (1, .int lo1), (2, .int lo2)]) hx hb dX7_about_42 hl (k := 4) rfl (by rw [ex17]; rfl) (by decide) rfl (fun ls hl => ?_)
            refine lv_goto (tgt := 10) hx hb dX7_about_45 (by decide) ?_
            exact ih10 _ _ ls (lo1) (lo2) (x16) (x17) hP hD hS (lv_sub hl [2, 3, 4, 1, 0] rfl) hsp
          · have hsp := z_t c15 hsp
            refine lv_iconst (v := 1) hx hb dX7_about_35 (by decide) ?_
            refine lv_goto (tgt := 40) hx hb dX7_about_36 (by decide) ?_
            refine lv_iadd hx hb dX7_about_40 ?_
            obtain ⟨x18, ex18, hsp⟩ := z_lt hsp
            refine z_top ex18 ?_
            refine lv_istore_n (lv' := [(3, .int x18), (0, .ref (q 0)), (1, .int lo1), (2, .int lo2), (4, .int lo4)]) hx hb dX7_about_41 rfl hl (by decide) rfl (fun ls hl => ?_)
            obtain ⟨x19, ex19, hsp⟩ := z_lt hsp
            refine lv_iinc (v := x19) (lv' := [(4, .int x19), (3, .int x18), (0, .ref (q 0)), (1, .int lo1), (2, .int lo2)]) hx hb dX7_about_42 hl (k := 4) rfl (by rw [ex19]; rfl) (by decide) rfl (fun ls hl => ?_)
            refine lv_goto (tgt := 10) hx hb dX7_about_45 (by decide) ?_
            exact ih10 _ _ ls (lo1) (lo2) (x18) (x19) hP hD hS (lv_sub hl [2, 3, 4, 1, 0] rfl) hsp
  unfold s_X7_about at hsp
  refine lv_aload_n hx hb dX7_about_0 rfl (lv_at hl 0 rfl) ?_
  obtain ⟨v1, hc2, hsp⟩ := z_b1 hsp
  refine z_callVi ⟨hx, hb, hml, hown, hts⟩ hK (c_X7_greatestKept l dD cI cA q g F v1 hc2) (cwV 0 hts gX7_about_X7_greatestKept rfl rfl rfl (by decide +kernel) ⟨Nat.le_of_ble_eq_true rfl, Nat.le_of_ble_eq_true rfl⟩) (zJ.full hP hD hS hA) hS 0 7 rfl rfl rfl rfl hl.1 rfl (Nat.le_of_ble_eq_true rfl) dX7_about_1 ⟨Nat.zero_le _, Nat.zero_le _⟩ (fun H locs hP hD hS => ?_)
  refine lv_istore_n (lv' := [(2, .int v1), (0, .ref (q 0)), (1, .int p1)]) hx hb dX7_about_4 rfl hl (by decide) rfl (fun ls hl => ?_)
  refine lv_iconst (v := 0) hx hb dX7_about_5 (by decide) ?_
  refine lv_istore_n (lv' := [(3, .int 0), (2, .int v1), (0, .ref (q 0)), (1, .int p1)]) hx hb dX7_about_6 rfl hl (by decide) rfl (fun ls hl => ?_)
  refine lv_iconst (v := 0) hx hb dX7_about_7 (by decide) ?_
  refine lv_istore (lv' := [(4, .int 0), (3, .int 0), (2, .int v1), (0, .ref (q 0)), (1, .int p1)]) hx hb dX7_about_8 hl (by decide) rfl (fun ls hl => ?_)
  exact K_10 13 _ _ ls (p1) (v1) (0) (0) hP hD hS (lv_sub hl [3, 4, 2, 1, 0] rfl) hsp
