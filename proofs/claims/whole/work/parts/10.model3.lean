def s_X7_makeMix_b31  : Nat → (zF) → (Nat → zF) → (Int32) → (Int32) → (Int32) → (Int32) → (Int32) → Option ((zF) × (Nat → zF))
  | 0, _, _, _, _, _, _, _ => none
  | n31 + 1, g_, F_, lo1, lo2, lo3, lo4, lo5 => (if lo5 < 0 then if lo1 < 0 ∨ 12 ≤ (lo1).toNatClampNeg then none else (if ((F_ 36) (lo1).toNatClampNeg) = 0 then if ((12 * lo1) + lo4) < 0 ∨ 144 ≤ (((12 * lo1) + lo4)).toNatClampNeg then none else if lo1 < 0 ∨ 12 ≤ (lo1).toNatClampNeg then none else zl (zu F_ 36 (lo1).toNatClampNeg (((F_ 14) (((12 * lo1) + lo4)).toNatClampNeg))) fun (F13 : Nat → zF) => if ((12 * lo1) + lo4) < 0 ∨ 144 ≤ (((12 * lo1) + lo4)).toNatClampNeg then none else if lo1 < 0 ∨ 12 ≤ (lo1).toNatClampNeg then none else zl (zu F13 37 (lo1).toNatClampNeg (((F13 15) (((12 * lo1) + lo4)).toNatClampNeg))) fun (F16 : Nat → zF) => some (g_, F16) else some (g_, F_)) else if ((12 * lo1) + lo5) < 0 ∨ 144 ≤ (((12 * lo1) + lo5)).toNatClampNeg then none else (if ((F_ 14) (((12 * lo1) + lo5)).toNatClampNeg) = 0 then zl (lo5 + (-1)) fun (x46 : Int32) => (s_X7_makeMix_b31  n31 g_ F_ (lo1) (lo2) (lo3) (lo4) (x46)) else (if 0 ≤ lo4 then (if ((zShr lo2 lo3) &&& 1) = 1 then if lo1 < 0 ∨ 12 ≤ (lo1).toNatClampNeg then none else if ((12 * lo1) + lo5) < 0 ∨ 144 ≤ (((12 * lo1) + lo5)).toNatClampNeg then none else if lo1 < 0 ∨ 12 ≤ (lo1).toNatClampNeg then none else zl (zu F_ 36 (lo1).toNatClampNeg ((((F_ 36) (lo1).toNatClampNeg) ^^^ ((F_ 14) (((12 * lo1) + lo5)).toNatClampNeg)))) fun (F26 : Nat → zF) => if lo1 < 0 ∨ 12 ≤ (lo1).toNatClampNeg then none else if ((12 * lo1) + lo5) < 0 ∨ 144 ≤ (((12 * lo1) + lo5)).toNatClampNeg then none else if lo1 < 0 ∨ 12 ≤ (lo1).toNatClampNeg then none else zl (zu F26 37 (lo1).toNatClampNeg ((((F26 37) (lo1).toNatClampNeg) ^^^ ((F26 15) (((12 * lo1) + lo5)).toNatClampNeg)))) fun (F30 : Nat → zF) => zl (lo3 + 1) fun (x31 : Int32) => zl (lo5 + (-1)) fun (x32 : Int32) => (s_X7_makeMix_b31  n31 g_ F30 (lo1) (lo2) (x31) (lo4) (x32)) else zl (lo3 + 1) fun (x21 : Int32) => zl (lo5 + (-1)) fun (x22 : Int32) => (s_X7_makeMix_b31  n31 g_ F_ (lo1) (lo2) (x21) (lo4) (x22))) else (if ((zShr lo2 lo3) &&& 1) = 1 then if lo1 < 0 ∨ 12 ≤ (lo1).toNatClampNeg then none else if ((12 * lo1) + lo5) < 0 ∨ 144 ≤ (((12 * lo1) + lo5)).toNatClampNeg then none else if lo1 < 0 ∨ 12 ≤ (lo1).toNatClampNeg then none else zl (zu F_ 36 (lo1).toNatClampNeg ((((F_ 36) (lo1).toNatClampNeg) ^^^ ((F_ 14) (((12 * lo1) + lo5)).toNatClampNeg)))) fun (F39 : Nat → zF) => if lo1 < 0 ∨ 12 ≤ (lo1).toNatClampNeg then none else if ((12 * lo1) + lo5) < 0 ∨ 144 ≤ (((12 * lo1) + lo5)).toNatClampNeg then none else if lo1 < 0 ∨ 12 ≤ (lo1).toNatClampNeg then none else zl (zu F39 37 (lo1).toNatClampNeg ((((F39 37) (lo1).toNatClampNeg) ^^^ ((F39 15) (((12 * lo1) + lo5)).toNatClampNeg)))) fun (F43 : Nat → zF) => zl (lo3 + 1) fun (x44 : Int32) => zl (lo5 + (-1)) fun (x45 : Int32) => (s_X7_makeMix_b31  n31 g_ F43 (lo1) (lo2) (x44) (lo5) (x45)) else zl (lo3 + 1) fun (x34 : Int32) => zl (lo5 + (-1)) fun (x35 : Int32) => (s_X7_makeMix_b31  n31 g_ F_ (lo1) (lo2) (x34) (lo5) (x35))))))
def s_X7_makeMix (g : zF) (F : Nat → zF) (p1 : Int32) : Option ((zF) × (Nat → zF)) := zb2 (s_X7_draw g F (4096)) fun (v1 : Int32) (g2 : zF) => if p1 < 0 ∨ 12 ≤ (p1).toNatClampNeg then none else zl (zu F 36 (p1).toNatClampNeg (0)) fun (F5 : Nat → zF) => if p1 < 0 ∨ 12 ≤ (p1).toNatClampNeg then none else zl (zu F5 37 (p1).toNatClampNeg (0)) fun (F7 : Nat → zF) => (s_X7_makeMix_b31  13 g2 F7 (p1) (v1) (0) ((-1)) (11))
abbrev rm_X7_makeMix : Room := { frames := 1, cells := 0, slots := 0, locals := 21 }
set_option maxHeartbeats 4000000 in
set_option maxRecDepth 100000 in
theorem c_X7_makeMix (l : Launch) (dD : va_G) (cI cA : ClassId) (q : Nat → Nat) (g : zF) (F : Nat → zF) (p1 : Int32) (r_g : zF) (r_F : Nat → zF) (hsp : s_X7_makeMix g F p1 = some (r_g, r_F)) : zMv l yX7_makeMix wsX7_makeMix rm_X7_makeMix dD cI cA [.ref (q 0), .int p1] (zQ cI q g F) (zQ cI q r_g r_F) := by
  refine zMv_of (cc := cX7_makeMix) (maxL := 6) (by decide) rfl (Nat.le_of_ble_eq_true rfl) ?_
  intro p e s m args below meth c A Q ls hx hb hml hown hts hK hA hP hD hl hret
  have hown : s.vm.findClass RX7 = some m.cls := hown
  have iX7 : ∀ w ∈ wsX70, w ∈ wsX7_makeMix := by decide +kernel
  have f104 := hts (.fieldLink RX7 104 "MeshFieldModel" "letterMask" "[I") (by decide +kernel)
  have f107 := hts (.fieldLink RX7 107 "MeshFieldModel" "letterData" "[I") (by decide +kernel)
  have f41 := hts (.fieldLink RX7 41 "MeshFieldModel" "mask" "[I") (by decide +kernel)
  have f44 := hts (.fieldLink RX7 44 "MeshFieldModel" "data" "[I") (by decide +kernel)
  have hS : va_S A s.heap s.heap [] := va_S.rf
  have hl : lv_has ls 6 [(0, .ref (q 0)), (1, .int p1)] := hl
  have K_31 : ∀ (nf : Nat) (H : Heap) (locs : List Loc) (ls : Array Slot) (g_ : zF) (F_ : Nat → zF) (lo1 : Int32) (lo2 : Int32) (lo3 : Int32) (lo4 : Int32) (lo5 : Int32), va_P dD vwCl (zQ cI q g_ F_) H → va_D A (zQ cI q g_ F_) → va_S A s.heap H locs → lv_has ls 6 [(0, .ref (q 0)), (1, .int lo1), (2, .int lo2), (3, .int lo3), (4, .int lo4), (5, .int lo5)] → s_X7_makeMix_b31  nf g_ F_ lo1 lo2 lo3 lo4 lo5 = some (r_g, r_F) → W p l e rm_X7_makeMix s m args below meth c H locs 0 0 Q (F0 m 31 ls []) := by
    intro nf
    induction nf with
    | zero =>
      intro H locs ls g_ F_ lo1 lo2 lo3 lo4 lo5 hP hD hS hl hsp
      exact absurd (show (none : Option ((zF) × (Nat → zF))) = some (r_g, r_F) from hsp) (fun h => by cases h)
    | succ n31 ih31 =>
      intro H locs ls g_ F_ lo1 lo2 lo3 lo4 lo5 hP hD hS hl hsp
      rw [s_X7_makeMix_b31] at hsp
      refine lv_iload hx hb dX7_makeMix_31 (lv_at hl 5 rfl) ?_
      refine lv_if_lt (tgt := 123) hx hb dX7_makeMix_33 (by decide) (fun c8 => ?_) (fun c8 => ?_)
      · have hsp := z_t c8 hsp
        refine lv_aload_n hx hb dX7_makeMix_123 rfl (lv_at hl 0 rfl) ?_
        refine va_get (D := dD) (ci := 7) (v := .ref (q 36)) (C := RX7) (T := TX7) (N := 41) hx hb hts iX7 hown hK.1 hP 0 rfl rfl 36 (by decide) f104 (fun _ h9 => h9) rfl dX7_makeMix_124 ?_
        refine lv_iload_n hx hb dX7_makeMix_127 rfl (lv_at hl 1 rfl) ?_
        obtain ⟨h9, hsp⟩ := z_in hsp
        refine va_iald hx hb hK.1 hP 26 0 rfl rfl h9 dX7_makeMix_128 ?_
        refine lv_if_eq (tgt := 133) hx hb dX7_makeMix_129 (by decide) (fun c10 => ?_) (fun c10 => ?_)
        · have hsp := z_t c10 hsp
          refine lv_aload_n hx hb dX7_makeMix_133 rfl (lv_at hl 0 rfl) ?_
          refine va_get (D := dD) (ci := 7) (v := .ref (q 36)) (C := RX7) (T := TX7) (N := 41) hx hb hts iX7 hown hK.1 hP 0 rfl rfl 36 (by decide) f104 (fun _ h9 => h9) rfl dX7_makeMix_134 ?_
          refine lv_iload_n hx hb dX7_makeMix_137 rfl (lv_at hl 1 rfl) ?_
          refine lv_aload_n hx hb dX7_makeMix_138 rfl (lv_at hl 0 rfl) ?_
          refine va_get (D := dD) (ci := 7) (v := .ref (q 14)) (C := RX7) (T := TX7) (N := 41) hx hb hts iX7 hown hK.1 hP 0 rfl rfl 14 (by decide) f41 (fun _ h9 => h9) rfl dX7_makeMix_139 ?_
          refine lv_bipush (v := 12) hx hb dX7_makeMix_142 (by decide) ?_
          refine lv_iload_n hx hb dX7_makeMix_144 rfl (lv_at hl 1 rfl) ?_
          refine lv_imul hx hb dX7_makeMix_145 ?_
          refine lv_iload hx hb dX7_makeMix_146 (lv_at hl 4 rfl) ?_
          refine lv_iadd hx hb dX7_makeMix_148 ?_
          obtain ⟨h11, hsp⟩ := z_in hsp
          refine va_iald hx hb hK.1 hP 6 0 rfl rfl h11 dX7_makeMix_149 ?_
          obtain ⟨h12, hsp⟩ := z_in hsp
          refine va_iast hx hb hK.1 hP hD hS 26 0 rfl rfl h12 dX7_makeMix_150 (fun H locs hP hD hS => ?_)
          obtain ⟨F13, eF13, hsp⟩ := z_lt hsp
          have hP : va_P dD vwCl (zQ cI q g_ F13) H := by rw [eF13]; exact hP
          have hD : va_D A (zQ cI q g_ F13) := by rw [eF13]; exact hD
          refine lv_aload_n hx hb dX7_makeMix_151 rfl (lv_at hl 0 rfl) ?_
          refine va_get (D := dD) (ci := 7) (v := .ref (q 37)) (C := RX7) (T := TX7) (N := 41) hx hb hts iX7 hown hK.1 hP 0 rfl rfl 37 (by decide) f107 (fun _ h9 => h9) rfl dX7_makeMix_152 ?_
          refine lv_iload_n hx hb dX7_makeMix_155 rfl (lv_at hl 1 rfl) ?_
          refine lv_aload_n hx hb dX7_makeMix_156 rfl (lv_at hl 0 rfl) ?_
          refine va_get (D := dD) (ci := 7) (v := .ref (q 15)) (C := RX7) (T := TX7) (N := 41) hx hb hts iX7 hown hK.1 hP 0 rfl rfl 15 (by decide) f44 (fun _ h9 => h9) rfl dX7_makeMix_157 ?_
          refine lv_bipush (v := 12) hx hb dX7_makeMix_160 (by decide) ?_
          refine lv_iload_n hx hb dX7_makeMix_162 rfl (lv_at hl 1 rfl) ?_
          refine lv_imul hx hb dX7_makeMix_163 ?_
          refine lv_iload hx hb dX7_makeMix_164 (lv_at hl 4 rfl) ?_
          refine lv_iadd hx hb dX7_makeMix_166 ?_
          obtain ⟨h14, hsp⟩ := z_in hsp
          refine va_iald hx hb hK.1 hP 7 0 rfl rfl h14 dX7_makeMix_167 ?_
          obtain ⟨h15, hsp⟩ := z_in hsp
          refine va_iast hx hb hK.1 hP hD hS 27 0 rfl rfl h15 dX7_makeMix_168 (fun H locs hP hD hS => ?_)
          obtain ⟨F16, eF16, hsp⟩ := z_lt hsp
          have hP : va_P dD vwCl (zQ cI q g_ F16) H := by rw [eF16]; exact hP
          have hD : va_D A (zQ cI q g_ F16) := by rw [eF16]; exact hD
          obtain ⟨rfl, rfl⟩ := z_i2 hsp
          exact hret _ _ ls 169 dX7_makeMix_169 hP hD hS
        · have hsp := z_f c10 hsp
          obtain ⟨rfl, rfl⟩ := z_i2 hsp
          exact hret _ _ ls 132 dX7_makeMix_132 hP hD hS
      · have hsp := z_f c8 hsp
        refine lv_aload_n hx hb dX7_makeMix_36 rfl (lv_at hl 0 rfl) ?_
        refine va_get (D := dD) (ci := 7) (v := .ref (q 14)) (C := RX7) (T := TX7) (N := 41) hx hb hts iX7 hown hK.1 hP 0 rfl rfl 14 (by decide) f41 (fun _ h9 => h9) rfl dX7_makeMix_37 ?_
        refine lv_bipush (v := 12) hx hb dX7_makeMix_40 (by decide) ?_
        refine lv_iload_n hx hb dX7_makeMix_42 rfl (lv_at hl 1 rfl) ?_
        refine lv_imul hx hb dX7_makeMix_43 ?_
        refine lv_iload hx hb dX7_makeMix_44 (lv_at hl 5 rfl) ?_
        refine lv_iadd hx hb dX7_makeMix_46 ?_
        obtain ⟨h17, hsp⟩ := z_in hsp
        refine va_iald hx hb hK.1 hP 6 0 rfl rfl h17 dX7_makeMix_47 ?_
        refine lv_if_ne (tgt := 54) hx hb dX7_makeMix_48 (by decide) (fun c18 => ?_) (fun c18 => ?_)
        · have hsp := z_f c18 hsp
          refine lv_iload hx hb dX7_makeMix_54 (lv_at hl 4 rfl) ?_
          refine lv_if_ge (tgt := 63) hx hb dX7_makeMix_56 (by decide) (fun c19 => ?_) (fun c19 => ?_)
          · have hsp := z_t c19 hsp
            refine lv_iload_n hx hb dX7_makeMix_63 rfl (lv_at hl 2 rfl) ?_
            refine lv_iload_n hx hb dX7_makeMix_64 rfl (lv_at hl 3 rfl) ?_
            refine lv_ishr hx hb dX7_makeMix_65 ?_
            refine z_top (y := (zShr lo2 lo3)) rfl ?_
            refine lv_iconst (v := 1) hx hb dX7_makeMix_66 (by decide) ?_
            refine lv_iand hx hb dX7_makeMix_67 ?_
            refine lv_iconst (v := 1) hx hb dX7_makeMix_68 (by decide) ?_
            refine lv_icmp_ne (tgt := 114) hx hb dX7_makeMix_69 (by decide) (fun c20 => ?_) (fun c20 => ?_)
            · have hsp := z_f c20 hsp
              obtain ⟨x21, ex21, hsp⟩ := z_lt hsp
              refine lv_iinc (v := x21) (lv' := [(3, .int x21), (0, .ref (q 0)), (1, .int lo1), (2, .int lo2), (4, .int lo4), (5, .int lo5)]) hx hb dX7_makeMix_114 hl (k := 3) rfl (by rw [ex21]; rfl) (by decide) rfl (fun ls hl => ?_)
              obtain ⟨x22, ex22, hsp⟩ := z_lt hsp
              refine lv_iinc (v := x22) (lv' := [(5, .int x22), (3, .int x21), (0, .ref (q 0)), (1, .int lo1), (2, .int lo2), (4, .int lo4)]) hx hb dX7_makeMix_117 hl (k := 5) rfl (by rw [ex22]; rfl) (by decide) rfl (fun ls hl => ?_)
              refine lv_goto (tgt := 31) hx hb dX7_makeMix_120 (by decide) ?_
              exact ih31 _ _ ls g_ F_ (lo1) (lo2) (x21) (lo4) (x22) hP hD hS (lv_sub hl [2, 3, 4, 1, 5, 0] rfl) hsp
            · have hsp := z_t c20 hsp
              refine lv_aload_n hx hb dX7_makeMix_72 rfl (lv_at hl 0 rfl) ?_
              refine va_get (D := dD) (ci := 7) (v := .ref (q 36)) (C := RX7) (T := TX7) (N := 41) hx hb hts iX7 hown hK.1 hP 0 rfl rfl 36 (by decide) f104 (fun _ h9 => h9) rfl dX7_makeMix_73 ?_
              refine lv_iload_n hx hb dX7_makeMix_76 rfl (lv_at hl 1 rfl) ?_
              refine lv_dup2_11 hx hb dX7_makeMix_77 rfl rfl ?_
              obtain ⟨h23, hsp⟩ := z_in hsp
              refine va_iald hx hb hK.1 hP 26 0 rfl rfl h23 dX7_makeMix_78 ?_
              refine lv_aload_n hx hb dX7_makeMix_79 rfl (lv_at hl 0 rfl) ?_
              refine va_get (D := dD) (ci := 7) (v := .ref (q 14)) (C := RX7) (T := TX7) (N := 41) hx hb hts iX7 hown hK.1 hP 0 rfl rfl 14 (by decide) f41 (fun _ h9 => h9) rfl dX7_makeMix_80 ?_
              refine lv_bipush (v := 12) hx hb dX7_makeMix_83 (by decide) ?_
              refine lv_iload_n hx hb dX7_makeMix_85 rfl (lv_at hl 1 rfl) ?_
              refine lv_imul hx hb dX7_makeMix_86 ?_
              refine lv_iload hx hb dX7_makeMix_87 (lv_at hl 5 rfl) ?_
              refine lv_iadd hx hb dX7_makeMix_89 ?_
              obtain ⟨h24, hsp⟩ := z_in hsp
              refine va_iald hx hb hK.1 hP 6 0 rfl rfl h24 dX7_makeMix_90 ?_
              refine lv_ixor hx hb dX7_makeMix_91 ?_
              obtain ⟨h25, hsp⟩ := z_in hsp
              refine va_iast hx hb hK.1 hP hD hS 26 0 rfl rfl h25 dX7_makeMix_92 (fun H locs hP hD hS => ?_)
              obtain ⟨F26, eF26, hsp⟩ := z_lt hsp
              have hP : va_P dD vwCl (zQ cI q g_ F26) H := by rw [eF26]; exact hP
              have hD : va_D A (zQ cI q g_ F26) := by rw [eF26]; exact hD
              refine lv_aload_n hx hb dX7_makeMix_93 rfl (lv_at hl 0 rfl) ?_
              refine va_get (D := dD) (ci := 7) (v := .ref (q 37)) (C := RX7) (T := TX7) (N := 41) hx hb hts iX7 hown hK.1 hP 0 rfl rfl 37 (by decide) f107 (fun _ h9 => h9) rfl dX7_makeMix_94 ?_
              refine lv_iload_n hx hb dX7_makeMix_97 rfl (lv_at hl 1 rfl) ?_
              refine lv_dup2_11 hx hb dX7_makeMix_98 rfl rfl ?_
              obtain ⟨h27, hsp⟩ := z_in hsp
              refine va_iald hx hb hK.1 hP 27 0 rfl rfl h27 dX7_makeMix_99 ?_
              refine lv_aload_n hx hb dX7_makeMix_100 rfl (lv_at hl 0 rfl) ?_
              refine va_get (D := dD) (ci := 7) (v := .ref (q 15)) (C := RX7) (T := TX7) (N := 41) hx hb hts iX7 hown hK.1 hP 0 rfl rfl 15 (by decide) f44 (fun _ h9 => h9) rfl dX7_makeMix_101 ?_
              refine lv_bipush (v := 12) hx hb dX7_makeMix_104 (by decide) ?_
              refine lv_iload_n hx hb dX7_makeMix_106 rfl (lv_at hl 1 rfl) ?_
              refine lv_imul hx hb dX7_makeMix_107 ?_
              refine lv_iload hx hb dX7_makeMix_108 (lv_at hl 5 rfl) ?_
              refine lv_iadd hx hb dX7_makeMix_110 ?_
              obtain ⟨h28, hsp⟩ := z_in hsp
              refine va_iald hx hb hK.1 hP 7 0 rfl rfl h28 dX7_makeMix_111 ?_
              refine lv_ixor hx hb dX7_makeMix_112 ?_
              obtain ⟨h29, hsp⟩ := z_in hsp
              refine va_iast hx hb hK.1 hP hD hS 27 0 rfl rfl h29 dX7_makeMix_113 (fun H locs hP hD hS => ?_)
              obtain ⟨F30, eF30, hsp⟩ := z_lt hsp
              have hP : va_P dD vwCl (zQ cI q g_ F30) H := by rw [eF30]; exact hP
              have hD : va_D A (zQ cI q g_ F30) := by rw [eF30]; exact hD
              obtain ⟨x31, ex31, hsp⟩ := z_lt hsp
              refine lv_iinc (v := x31) (lv' := [(3, .int x31), (0, .ref (q 0)), (1, .int lo1), (2, .int lo2), (4, .int lo4), (5, .int lo5)]) hx hb dX7_makeMix_114 hl (k := 3) rfl (by rw [ex31]; rfl) (by decide) rfl (fun ls hl => ?_)
              obtain ⟨x32, ex32, hsp⟩ := z_lt hsp
              refine lv_iinc (v := x32) (lv' := [(5, .int x32), (3, .int x31), (0, .ref (q 0)), (1, .int lo1), (2, .int lo2), (4, .int lo4)]) hx hb dX7_makeMix_117 hl (k := 5) rfl (by rw [ex32]; rfl) (by decide) rfl (fun ls hl => ?_)
              refine lv_goto (tgt := 31) hx hb dX7_makeMix_120 (by decide) ?_
              exact ih31 _ _ ls g_ F30 (lo1) (lo2) (x31) (lo4) (x32) hP hD hS (lv_sub hl [2, 3, 4, 1, 5, 0] rfl) hsp
          · have hsp := z_f c19 hsp
            refine lv_iload hx hb dX7_makeMix_59 (lv_at hl 5 rfl) ?_
            refine lv_istore (lv' := [(4, .int lo5), (0, .ref (q 0)), (1, .int lo1), (2, .int lo2), (3, .int lo3), (5, .int lo5)]) hx hb dX7_makeMix_61 hl (by decide) rfl (fun ls hl => ?_)
            refine lv_iload_n hx hb dX7_makeMix_63 rfl (lv_at hl 3 rfl) ?_
            refine lv_iload_n hx hb dX7_makeMix_64 rfl (lv_at hl 4 rfl) ?_
            refine lv_ishr hx hb dX7_makeMix_65 ?_
            refine z_top (y := (zShr lo2 lo3)) rfl ?_
            refine lv_iconst (v := 1) hx hb dX7_makeMix_66 (by decide) ?_
            refine lv_iand hx hb dX7_makeMix_67 ?_
            refine lv_iconst (v := 1) hx hb dX7_makeMix_68 (by decide) ?_
            refine lv_icmp_ne (tgt := 114) hx hb dX7_makeMix_69 (by decide) (fun c33 => ?_) (fun c33 => ?_)
            · have hsp := z_f c33 hsp
              obtain ⟨x34, ex34, hsp⟩ := z_lt hsp
              refine lv_iinc (v := x34) (lv' := [(3, .int x34), (4, .int lo5), (0, .ref (q 0)), (1, .int lo1), (2, .int lo2), (5, .int lo5)]) hx hb dX7_makeMix_114 hl (k := 4) rfl (by rw [ex34]; rfl) (by decide) rfl (fun ls hl => ?_)
              obtain ⟨x35, ex35, hsp⟩ := z_lt hsp
              refine lv_iinc (v := x35) (lv' := [(5, .int x35), (3, .int x34), (4, .int lo5), (0, .ref (q 0)), (1, .int lo1), (2, .int lo2)]) hx hb dX7_makeMix_117 hl (k := 5) rfl (by rw [ex35]; rfl) (by decide) rfl (fun ls hl => ?_)
              refine lv_goto (tgt := 31) hx hb dX7_makeMix_120 (by decide) ?_
              exact ih31 _ _ ls g_ F_ (lo1) (lo2) (x34) (lo5) (x35) hP hD hS (lv_sub hl [3, 4, 5, 1, 2, 0] rfl) hsp
            · have hsp := z_t c33 hsp
              refine lv_aload_n hx hb dX7_makeMix_72 rfl (lv_at hl 1 rfl) ?_
              refine va_get (D := dD) (ci := 7) (v := .ref (q 36)) (C := RX7) (T := TX7) (N := 41) hx hb hts iX7 hown hK.1 hP 0 rfl rfl 36 (by decide) f104 (fun _ h9 => h9) rfl dX7_makeMix_73 ?_
              refine lv_iload_n hx hb dX7_makeMix_76 rfl (lv_at hl 2 rfl) ?_
              refine lv_dup2_11 hx hb dX7_makeMix_77 rfl rfl ?_
              obtain ⟨h36, hsp⟩ := z_in hsp
              refine va_iald hx hb hK.1 hP 26 0 rfl rfl h36 dX7_makeMix_78 ?_
              refine lv_aload_n hx hb dX7_makeMix_79 rfl (lv_at hl 1 rfl) ?_
              refine va_get (D := dD) (ci := 7) (v := .ref (q 14)) (C := RX7) (T := TX7) (N := 41) hx hb hts iX7 hown hK.1 hP 0 rfl rfl 14 (by decide) f41 (fun _ h9 => h9) rfl dX7_makeMix_80 ?_
              refine lv_bipush (v := 12) hx hb dX7_makeMix_83 (by decide) ?_
              refine lv_iload_n hx hb dX7_makeMix_85 rfl (lv_at hl 2 rfl) ?_
              refine lv_imul hx hb dX7_makeMix_86 ?_
              refine lv_iload hx hb dX7_makeMix_87 (lv_at hl 5 rfl) ?_
              refine lv_iadd hx hb dX7_makeMix_89 ?_
              obtain ⟨h37, hsp⟩ := z_in hsp
              refine va_iald hx hb hK.1 hP 6 0 rfl rfl h37 dX7_makeMix_90 ?_
              refine lv_ixor hx hb dX7_makeMix_91 ?_
              obtain ⟨h38, hsp⟩ := z_in hsp
              refine va_iast hx hb hK.1 hP hD hS 26 0 rfl rfl h38 dX7_makeMix_92 (fun H locs hP hD hS => ?_)
              obtain ⟨F39, eF39, hsp⟩ := z_lt hsp
              have hP : va_P dD vwCl (zQ cI q g_ F39) H := by rw [eF39]; exact hP
              have hD : va_D A (zQ cI q g_ F39) := by rw [eF39]; exact hD
              refine lv_aload_n hx hb dX7_makeMix_93 rfl (lv_at hl 1 rfl) ?_
              refine va_get (D := dD) (ci := 7) (v := .ref (q 37)) (C := RX7) (T := TX7) (N := 41) hx hb hts iX7 hown hK.1 hP 0 rfl rfl 37 (by decide) f107 (fun _ h9 => h9) rfl dX7_makeMix_94 ?_
              refine lv_iload_n hx hb dX7_makeMix_97 rfl (lv_at hl 2 rfl) ?_
              refine lv_dup2_11 hx hb dX7_makeMix_98 rfl rfl ?_
              obtain ⟨h40, hsp⟩ := z_in hsp
              refine va_iald hx hb hK.1 hP 27 0 rfl rfl h40 dX7_makeMix_99 ?_
              refine lv_aload_n hx hb dX7_makeMix_100 rfl (lv_at hl 1 rfl) ?_
              refine va_get (D := dD) (ci := 7) (v := .ref (q 15)) (C := RX7) (T := TX7) (N := 41) hx hb hts iX7 hown hK.1 hP 0 rfl rfl 15 (by decide) f44 (fun _ h9 => h9) rfl dX7_makeMix_101 ?_
              refine lv_bipush (v := 12) hx hb dX7_makeMix_104 (by decide) ?_
              refine lv_iload_n hx hb dX7_makeMix_106 rfl (lv_at hl 2 rfl) ?_
              refine lv_imul hx hb dX7_makeMix_107 ?_
              refine lv_iload hx hb dX7_makeMix_108 (lv_at hl 5 rfl) ?_
              refine lv_iadd hx hb dX7_makeMix_110 ?_
              obtain ⟨h41, hsp⟩ := z_in hsp
              refine va_iald hx hb hK.1 hP 7 0 rfl rfl h41 dX7_makeMix_111 ?_
              refine lv_ixor hx hb dX7_makeMix_112 ?_
              obtain ⟨h42, hsp⟩ := z_in hsp
              refine va_iast hx hb hK.1 hP hD hS 27 0 rfl rfl h42 dX7_makeMix_113 (fun H locs hP hD hS => ?_)
              obtain ⟨F43, eF43, hsp⟩ := z_lt hsp
              have hP : va_P dD vwCl (zQ cI q g_ F43) H := by rw [eF43]; exact hP
              have hD : va_D A (zQ cI q g_ F43) := by rw [eF43]; exact hD
              obtain ⟨x44, ex44, hsp⟩ := z_lt hsp
              refine lv_iinc (v := x44) (lv' := [(3, .int x44), (4, .int lo5), (0, .ref (q 0)), (1, .int lo1), (2, .int lo2), (5, .int lo5)]) hx hb dX7_makeMix_114 hl (k := 4) rfl (by rw [ex44]; rfl) (by decide) rfl (fun ls hl => ?_)
              obtain ⟨x45, ex45, hsp⟩ := z_lt hsp
              refine lv_iinc (v := x45) (lv' := [(5, .int x45), (3, .int x44), (4, .int lo5), (0, .ref (q 0)), (1, .int lo1), (2, .int lo2)]) hx hb dX7_makeMix_117 hl (k := 5) rfl (by rw [ex45]; rfl) (by decide) rfl (fun ls hl => ?_)
              refine lv_goto (tgt := 31) hx hb dX7_makeMix_120 (by decide) ?_
              exact ih31 _ _ ls g_ F43 (lo1) (lo2) (x44) (lo5) (x45) hP hD hS (lv_sub hl [3, 4, 5, 1, 2, 0] rfl) hsp
        · have hsp := z_t c18 hsp
          refine lv_goto (tgt := 117) hx hb dX7_makeMix_51 (by decide) ?_
          obtain ⟨x46, ex46, hsp⟩ := z_lt hsp
          refine lv_iinc (v := x46) (lv' := [(5, .int x46), (0, .ref (q 0)), (1, .int lo1), (2, .int lo2), (3, .int lo3), (4, .int lo4)]) hx hb dX7_makeMix_117 hl (k := 5) rfl (by rw [ex46]; rfl) (by decide) rfl (fun ls hl => ?_)
          refine lv_goto (tgt := 31) hx hb dX7_makeMix_120 (by decide) ?_
          exact ih31 _ _ ls g_ F_ (lo1) (lo2) (lo3) (lo4) (x46) hP hD hS (lv_sub hl [1, 2, 3, 4, 5, 0] rfl) hsp
  unfold s_X7_makeMix at hsp
  refine lv_aload_n hx hb dX7_makeMix_0 rfl (lv_at hl 0 rfl) ?_
  refine lv_sipush (v := 4096) hx hb dX7_makeMix_1 (by decide) ?_
  obtain ⟨v1, g2, hc3, hsp⟩ := z_b2 hsp
  refine z_callVi ⟨hx, hb, hml, hown, hts⟩ hK (c_X7_draw l dD cI cA q g F (4096) v1 g2 hc3) (cwV 1 hts gX7_makeMix_X7_draw rfl rfl rfl (by decide +kernel) ⟨Nat.le_of_ble_eq_true rfl, Nat.le_of_ble_eq_true rfl⟩) (zJ.full hP hD hS hA) hS 0 7 rfl rfl rfl rfl hl.1 rfl (Nat.le_of_ble_eq_true rfl) dX7_makeMix_4 ⟨Nat.zero_le _, Nat.zero_le _⟩ (fun H locs hP hD hS => ?_)
  refine lv_istore_n (lv' := [(2, .int v1), (0, .ref (q 0)), (1, .int p1)]) hx hb dX7_makeMix_7 rfl hl (by decide) rfl (fun ls hl => ?_)
  refine lv_iconst (v := 0) hx hb dX7_makeMix_8 (by decide) ?_
  refine lv_istore_n (lv' := [(3, .int 0), (2, .int v1), (0, .ref (q 0)), (1, .int p1)]) hx hb dX7_makeMix_9 rfl hl (by decide) rfl (fun ls hl => ?_)
  refine lv_iconst (v := (-1)) hx hb dX7_makeMix_10 (by decide) ?_
  refine lv_istore (lv' := [(4, .int (-1)), (3, .int 0), (2, .int v1), (0, .ref (q 0)), (1, .int p1)]) hx hb dX7_makeMix_11 hl (by decide) rfl (fun ls hl => ?_)
  refine lv_aload_n hx hb dX7_makeMix_13 rfl (lv_at hl 3 rfl) ?_
  refine va_get (D := dD) (ci := 7) (v := .ref (q 36)) (C := RX7) (T := TX7) (N := 41) hx hb hts iX7 hown hK.1 hP 0 rfl rfl 36 (by decide) f104 (fun _ h9 => h9) rfl dX7_makeMix_14 ?_
  refine lv_iload_n hx hb dX7_makeMix_17 rfl (lv_at hl 4 rfl) ?_
  refine lv_iconst (v := 0) hx hb dX7_makeMix_18 (by decide) ?_
  obtain ⟨h4, hsp⟩ := z_in hsp
  refine va_iast hx hb hK.1 hP hD hS 26 0 rfl rfl h4 dX7_makeMix_19 (fun H locs hP hD hS => ?_)
  obtain ⟨F5, eF5, hsp⟩ := z_lt hsp
  have hP : va_P dD vwCl (zQ cI q g2 F5) H := by rw [eF5]; exact hP
  have hD : va_D A (zQ cI q g2 F5) := by rw [eF5]; exact hD
  refine lv_aload_n hx hb dX7_makeMix_20 rfl (lv_at hl 3 rfl) ?_
  refine va_get (D := dD) (ci := 7) (v := .ref (q 37)) (C := RX7) (T := TX7) (N := 41) hx hb hts iX7 hown hK.1 hP 0 rfl rfl 37 (by decide) f107 (fun _ h9 => h9) rfl dX7_makeMix_21 ?_
  refine lv_iload_n hx hb dX7_makeMix_24 rfl (lv_at hl 4 rfl) ?_
  refine lv_iconst (v := 0) hx hb dX7_makeMix_25 (by decide) ?_
  obtain ⟨h6, hsp⟩ := z_in hsp
  refine va_iast hx hb hK.1 hP hD hS 27 0 rfl rfl h6 dX7_makeMix_26 (fun H locs hP hD hS => ?_)
  obtain ⟨F7, eF7, hsp⟩ := z_lt hsp
  have hP : va_P dD vwCl (zQ cI q g2 F7) H := by rw [eF7]; exact hP
  have hD : va_D A (zQ cI q g2 F7) := by rw [eF7]; exact hD
  refine lv_bipush (v := 11) hx hb dX7_makeMix_27 (by decide) ?_
  refine lv_istore (lv' := [(5, .int 11), (4, .int (-1)), (3, .int 0), (2, .int v1), (0, .ref (q 0)), (1, .int p1)]) hx hb dX7_makeMix_29 hl (by decide) rfl (fun ls hl => ?_)
  exact K_31 13 _ _ ls g2 F7 (p1) (v1) (0) ((-1)) (11) hP hD hS (lv_sub hl [4, 5, 3, 2, 1, 0] rfl) hsp
def s_X7_send_b156  (g_ : zF) (F_ : Nat → zF) (lo1 : Int32) : Option ((zF) × (Nat → zF)) := if lo1 < 0 ∨ 12 ≤ (lo1).toNatClampNeg then none else (if ((F_ 19) (lo1).toNatClampNeg) = (g_ 6) then if lo1 < 0 ∨ 12 ≤ (lo1).toNatClampNeg then none else (if (g_ 1) ≤ ((F_ 20) (lo1).toNatClampNeg) then some (g_, F_) else if lo1 < 0 ∨ 12 ≤ (lo1).toNatClampNeg then none else zl (zu F_ 31 (lo1).toNatClampNeg (1)) fun (F31 : Nat → zF) => if lo1 < 0 ∨ 12 ≤ (lo1).toNatClampNeg then none else if lo1 < 0 ∨ 12 ≤ (lo1).toNatClampNeg then none else zl (zu F31 22 (lo1).toNatClampNeg ((((F31 22) (lo1).toNatClampNeg) + 1))) fun (F34 : Nat → zF) => zl (va_up g_ 7 (((g_ 7) + 1))) fun (g35 : zF) => some (g35, F34)) else some (g_, F_))
def s_X7_send_b108  (g_ : zF) (F_ : Nat → zF) (lo1 : Int32) (lo2 : Int32) : Option ((zF) × (Nat → zF)) := (if lo2 = 0 then (s_X7_send_b156  g_ F_ (lo1)) else if lo1 < 0 ∨ 12 ≤ (lo1).toNatClampNeg then none else (if ((F_ 35) (lo1).toNatClampNeg) ≤ 0 then (s_X7_send_b156  g_ F_ (lo1)) else if lo1 < 0 ∨ 12 ≤ (lo1).toNatClampNeg then none else zl (zu F_ 31 (lo1).toNatClampNeg (2)) fun (F39 : Nat → zF) => if lo1 < 0 ∨ 12 ≤ (lo1).toNatClampNeg then none else if lo1 < 0 ∨ 12 ≤ (lo1).toNatClampNeg then none else zl (zu F39 23 (lo1).toNatClampNeg ((((F39 23) (lo1).toNatClampNeg) + 1))) fun (F42 : Nat → zF) => zl (va_up g_ 7 (((g_ 7) + 1))) fun (g43 : zF) => zb2 (s_X7_makeMix g43 F42 (lo1)) fun (g44 : zF) (F45 : Nat → zF) => some (g44, F45)))
def s_X7_send_b96  (g_ : zF) (F_ : Nat → zF) (lo1 : Int32) (t0 : Int32) : Option ((zF) × (Nat → zF)) := (if t0 = 0 then (s_X7_send_b108  g_ F_ (lo1) (t0)) else if lo1 < 0 ∨ 12 ≤ (lo1).toNatClampNeg then none else zl (zu F_ 21 (lo1).toNatClampNeg ((-1))) fun (F48 : Nat → zF) => (s_X7_send_b108  g_ F48 (lo1) (t0)))
def s_X7_send (g : zF) (F : Nat → zF) (p1 : Int32) : Option ((zF) × (Nat → zF)) := if p1 < 0 ∨ 12 ≤ (p1).toNatClampNeg then none else zl (zu F 31 (p1).toNatClampNeg (0)) fun (F2 : Nat → zF) => if p1 < 0 ∨ 12 ≤ (p1).toNatClampNeg then none else if p1 < 0 ∨ 12 ≤ (p1).toNatClampNeg then none else zl (zu F2 32 (p1).toNatClampNeg (((F2 11) (p1).toNatClampNeg))) fun (F5 : Nat → zF) => if p1 < 0 ∨ 12 ≤ (p1).toNatClampNeg then none else if p1 < 0 ∨ 12 ≤ (p1).toNatClampNeg then none else zl (zu F5 33 (p1).toNatClampNeg (((F5 12) (p1).toNatClampNeg))) fun (F8 : Nat → zF) => if p1 < 0 ∨ 12 ≤ (p1).toNatClampNeg then none else if p1 < 0 ∨ 12 ≤ (p1).toNatClampNeg then none else zl (zu F8 34 (p1).toNatClampNeg (((F8 13) (p1).toNatClampNeg))) fun (F11 : Nat → zF) => zb1 (s_X7_rank g F11 (p1)) fun (v12 : Int32) => if p1 < 0 ∨ 12 ≤ (p1).toNatClampNeg then none else zl (zu F11 35 (p1).toNatClampNeg (v12)) fun (F15 : Nat → zF) => if p1 < 0 ∨ 12 ≤ (p1).toNatClampNeg then none else if p1 < 0 ∨ 12 ≤ (p1).toNatClampNeg then none else zl (zu F15 38 (p1).toNatClampNeg (((F15 27) (p1).toNatClampNeg))) fun (F18 : Nat → zF) => if p1 < 0 ∨ 12 ≤ (p1).toNatClampNeg then none else if p1 < 0 ∨ 12 ≤ (p1).toNatClampNeg then none else zl (zu F18 39 (p1).toNatClampNeg (((F18 28) (p1).toNatClampNeg))) fun (F21 : Nat → zF) => if p1 < 0 ∨ 12 ≤ (p1).toNatClampNeg then none else (if ((F21 21) (p1).toNatClampNeg) = (g 6) then (s_X7_send_b96  g F21 (p1) (1)) else (s_X7_send_b96  g F21 (p1) (0)))
abbrev rm_X7_send : Room := { frames := 2, cells := 0, slots := 0, locals := 46 }
set_option maxHeartbeats 4000000 in
set_option maxRecDepth 100000 in
theorem c_X7_send (l : Launch) (dD : va_G) (cI cA : ClassId) (q : Nat → Nat) (g : zF) (F : Nat → zF) (p1 : Int32) (r_g : zF) (r_F : Nat → zF) (hsp : s_X7_send g F p1 = some (r_g, r_F)) : zMv l yX7_send wsX7_send rm_X7_send dD cI cA [.ref (q 0), .int p1] (zQ cI q g F) (zQ cI q r_g r_F) := by
  refine zMv_of (cc := cX7_send) (maxL := 3) (by decide) rfl (Nat.le_of_ble_eq_true rfl) ?_
  intro p e s m args below meth c A Q ls hx hb hml hown hts hK hA hP hD hl hret
  have hown : s.vm.findClass RX7 = some m.cls := hown
  have iX7 : ∀ w ∈ wsX70, w ∈ wsX7_send := by decide +kernel
  have f89 := hts (.fieldLink RX7 89 "MeshFieldModel" "sends" "[I") (by decide +kernel)
  have f92 := hts (.fieldLink RX7 92 "MeshFieldModel" "letterNumber" "[I") (by decide +kernel)
  have f32 := hts (.fieldLink RX7 32 "MeshFieldModel" "number" "[I") (by decide +kernel)
  have f95 := hts (.fieldLink RX7 95 "MeshFieldModel" "letterMany" "[I") (by decide +kernel)
  have f35 := hts (.fieldLink RX7 35 "MeshFieldModel" "many" "[I") (by decide +kernel)
  have f98 := hts (.fieldLink RX7 98 "MeshFieldModel" "letterSum" "[I") (by decide +kernel)
  have f38 := hts (.fieldLink RX7 38 "MeshFieldModel" "sum" "[I") (by decide +kernel)
  have f101 := hts (.fieldLink RX7 101 "MeshFieldModel" "letterRank" "[I") (by decide +kernel)
  have f110 := hts (.fieldLink RX7 110 "MeshFieldModel" "letterTurn" "[I") (by decide +kernel)
  have f80 := hts (.fieldLink RX7 80 "MeshFieldModel" "turnNumber" "[I") (by decide +kernel)
  have f113 := hts (.fieldLink RX7 113 "MeshFieldModel" "letterTick" "[I") (by decide +kernel)
  have f83 := hts (.fieldLink RX7 83 "MeshFieldModel" "turnTick" "[I") (by decide +kernel)
  have f62 := hts (.fieldLink RX7 62 "MeshFieldModel" "dataAt" "[I") (by decide +kernel)
  have f131 := hts (.fieldLink RX7 131 "MeshFieldModel" "tick" "I") (by decide +kernel)
  have f56 := hts (.fieldLink RX7 56 "MeshFieldModel" "tellsAt" "[I") (by decide +kernel)
  have f59 := hts (.fieldLink RX7 59 "MeshFieldModel" "heard" "[I") (by decide +kernel)
  have f13 := hts (.fieldLink RX7 13 "MeshFieldModel" "few" "I") (by decide +kernel)
  have f65 := hts (.fieldLink RX7 65 "MeshFieldModel" "tells" "[I") (by decide +kernel)
  have f166 := hts (.fieldLink RX7 166 "MeshFieldModel" "sent" "I") (by decide +kernel)
  have f68 := hts (.fieldLink RX7 68 "MeshFieldModel" "mixes" "[I") (by decide +kernel)
  have hS : va_S A s.heap s.heap [] := va_S.rf
  have hl : lv_has ls 3 [(0, .ref (q 0)), (1, .int p1)] := hl
  have K_156 : ∀ (H : Heap) (locs : List Loc) (ls : Array Slot) (g_ : zF) (F_ : Nat → zF) (lo1 : Int32), va_P dD vwCl (zQ cI q g_ F_) H → va_D A (zQ cI q g_ F_) → va_S A s.heap H locs → lv_has ls 3 [(0, .ref (q 0)), (1, .int lo1)] → s_X7_send_b156  g_ F_ lo1 = some (r_g, r_F) → W p l e rm_X7_send s m args below meth c H locs 0 0 Q (F0 m 156 ls []) := by
    intro H locs ls g_ F_ lo1 hP hD hS hl hsp
    unfold s_X7_send_b156 at hsp
    refine lv_aload_n hx hb dX7_send_156 rfl (lv_at hl 0 rfl) ?_
    refine va_get (D := dD) (ci := 7) (v := .ref (q 19)) (C := RX7) (T := TX7) (N := 41) hx hb hts iX7 hown hK.1 hP 0 rfl rfl 19 (by decide) f56 (fun _ h9 => h9) rfl dX7_send_157 ?_
    refine lv_iload_n hx hb dX7_send_160 rfl (lv_at hl 1 rfl) ?_
    obtain ⟨h26, hsp⟩ := z_in hsp
    refine va_iald hx hb hK.1 hP 11 0 rfl rfl h26 dX7_send_161 ?_
    refine lv_aload_n hx hb dX7_send_162 rfl (lv_at hl 0 rfl) ?_
    refine va_get (D := dD) (ci := 7) (v := .int (g_ 6)) (C := RX7) (T := TX7) (N := 41) hx hb hts iX7 hown hK.1 hP 0 rfl rfl 6 (by decide) f131 (fun _ h9 => h9) rfl dX7_send_163 ?_
    refine lv_icmp_ne (tgt := 209) hx hb dX7_send_166 (by decide) (fun c27 => ?_) (fun c27 => ?_)
    · have hsp := z_f c27 hsp
      obtain ⟨rfl, rfl⟩ := z_i2 hsp
      exact hret _ _ ls 209 dX7_send_209 hP hD hS
    · have hsp := z_t c27 hsp
      refine lv_aload_n hx hb dX7_send_169 rfl (lv_at hl 0 rfl) ?_
      refine va_get (D := dD) (ci := 7) (v := .ref (q 20)) (C := RX7) (T := TX7) (N := 41) hx hb hts iX7 hown hK.1 hP 0 rfl rfl 20 (by decide) f59 (fun _ h9 => h9) rfl dX7_send_170 ?_
      refine lv_iload_n hx hb dX7_send_173 rfl (lv_at hl 1 rfl) ?_
      obtain ⟨h28, hsp⟩ := z_in hsp
      refine va_iald hx hb hK.1 hP 12 0 rfl rfl h28 dX7_send_174 ?_
      refine lv_aload_n hx hb dX7_send_175 rfl (lv_at hl 0 rfl) ?_
      refine va_get (D := dD) (ci := 7) (v := .int (g_ 1)) (C := RX7) (T := TX7) (N := 41) hx hb hts iX7 hown hK.1 hP 0 rfl rfl 1 (by decide) f13 (fun _ h9 => h9) rfl dX7_send_176 ?_
      refine lv_icmp_ge (tgt := 209) hx hb dX7_send_179 (by decide) (fun c29 => ?_) (fun c29 => ?_)
      · have hsp := z_t c29 hsp
        obtain ⟨rfl, rfl⟩ := z_i2 hsp
        exact hret _ _ ls 209 dX7_send_209 hP hD hS
      · have hsp := z_f c29 hsp
        refine lv_aload_n hx hb dX7_send_182 rfl (lv_at hl 0 rfl) ?_
        refine va_get (D := dD) (ci := 7) (v := .ref (q 31)) (C := RX7) (T := TX7) (N := 41) hx hb hts iX7 hown hK.1 hP 0 rfl rfl 31 (by decide) f89 (fun _ h9 => h9) rfl dX7_send_183 ?_
        refine lv_iload_n hx hb dX7_send_186 rfl (lv_at hl 1 rfl) ?_
        refine lv_iconst (v := 1) hx hb dX7_send_187 (by decide) ?_
        obtain ⟨h30, hsp⟩ := z_in hsp
        refine va_iast hx hb hK.1 hP hD hS 21 0 rfl rfl h30 dX7_send_188 (fun H locs hP hD hS => ?_)
        obtain ⟨F31, eF31, hsp⟩ := z_lt hsp
        have hP : va_P dD vwCl (zQ cI q g_ F31) H := by rw [eF31]; exact hP
        have hD : va_D A (zQ cI q g_ F31) := by rw [eF31]; exact hD
        refine lv_aload_n hx hb dX7_send_189 rfl (lv_at hl 0 rfl) ?_
        refine va_get (D := dD) (ci := 7) (v := .ref (q 22)) (C := RX7) (T := TX7) (N := 41) hx hb hts iX7 hown hK.1 hP 0 rfl rfl 22 (by decide) f65 (fun _ h9 => h9) rfl dX7_send_190 ?_
        refine lv_iload_n hx hb dX7_send_193 rfl (lv_at hl 1 rfl) ?_
        refine lv_dup2_11 hx hb dX7_send_194 rfl rfl ?_
        obtain ⟨h32, hsp⟩ := z_in hsp
        refine va_iald hx hb hK.1 hP 14 0 rfl rfl h32 dX7_send_195 ?_
        refine lv_iconst (v := 1) hx hb dX7_send_196 (by decide) ?_
        refine lv_iadd hx hb dX7_send_197 ?_
        obtain ⟨h33, hsp⟩ := z_in hsp
        refine va_iast hx hb hK.1 hP hD hS 14 0 rfl rfl h33 dX7_send_198 (fun H locs hP hD hS => ?_)
        obtain ⟨F34, eF34, hsp⟩ := z_lt hsp
        have hP : va_P dD vwCl (zQ cI q g_ F34) H := by rw [eF34]; exact hP
        have hD : va_D A (zQ cI q g_ F34) := by rw [eF34]; exact hD
        refine lv_aload_n hx hb dX7_send_199 rfl (lv_at hl 0 rfl) ?_
        refine lv_dup hx hb dX7_send_200 rfl ?_
        refine va_get (D := dD) (ci := 7) (v := .int (g_ 7)) (C := RX7) (T := TX7) (N := 41) hx hb hts iX7 hown hK.1 hP 0 rfl rfl 7 (by decide) f166 (fun _ h9 => h9) rfl dX7_send_201 ?_
        refine lv_iconst (v := 1) hx hb dX7_send_204 (by decide) ?_
        refine lv_iadd hx hb dX7_send_205 ?_
        refine va_put (D := dD) (ci := 7) (v := .int ((g_ 7) + 1)) (ty := .int) (C := RX7) (T := TX7) (N := 41) hx hb hts iX7 tyX7 tyX7_ok nmX7 hown hK.1 hP hD hS 0 rfl rfl 7 (by decide) f166 (fun _ h9 => h9) rfl (by decide +kernel) rfl rfl (Nat.le_of_ble_eq_true rfl) dX7_send_206 (fun H locs hP hD hS => ?_)
        obtain ⟨g35, eg35, hsp⟩ := z_lt hsp
        have hP : va_P dD vwCl (zQ cI q g35 F34) H := by rw [eg35]; exact hP
        have hD : va_D A (zQ cI q g35 F34) := by rw [eg35]; exact hD
        obtain ⟨rfl, rfl⟩ := z_i2 hsp
        exact hret _ _ ls 209 dX7_send_209 hP hD hS
  have K_108 : ∀ (H : Heap) (locs : List Loc) (ls : Array Slot) (g_ : zF) (F_ : Nat → zF) (lo1 : Int32) (lo2 : Int32), va_P dD vwCl (zQ cI q g_ F_) H → va_D A (zQ cI q g_ F_) → va_S A s.heap H locs → lv_has ls 3 [(0, .ref (q 0)), (1, .int lo1), (2, .int lo2)] → s_X7_send_b108  g_ F_ lo1 lo2 = some (r_g, r_F) → W p l e rm_X7_send s m args below meth c H locs 0 0 Q (F0 m 108 ls []) := by
    intro H locs ls g_ F_ lo1 lo2 hP hD hS hl hsp
    unfold s_X7_send_b108 at hsp
    refine lv_iload_n hx hb dX7_send_108 rfl (lv_at hl 2 rfl) ?_
    refine lv_if_eq (tgt := 156) hx hb dX7_send_109 (by decide) (fun c25 => ?_) (fun c25 => ?_)
    · have hsp := z_t c25 hsp
      exact K_156 _ _ ls g_ F_ (lo1) hP hD hS (lv_sub hl [0, 1] rfl) hsp
    · have hsp := z_f c25 hsp
      refine lv_aload_n hx hb dX7_send_112 rfl (lv_at hl 0 rfl) ?_
      refine va_get (D := dD) (ci := 7) (v := .ref (q 35)) (C := RX7) (T := TX7) (N := 41) hx hb hts iX7 hown hK.1 hP 0 rfl rfl 35 (by decide) f101 (fun _ h9 => h9) rfl dX7_send_113 ?_
      refine lv_iload_n hx hb dX7_send_116 rfl (lv_at hl 1 rfl) ?_
      obtain ⟨h36, hsp⟩ := z_in hsp
      refine va_iald hx hb hK.1 hP 25 0 rfl rfl h36 dX7_send_117 ?_
      refine lv_if_le (tgt := 156) hx hb dX7_send_118 (by decide) (fun c37 => ?_) (fun c37 => ?_)
      · have hsp := z_t c37 hsp
        exact K_156 _ _ ls g_ F_ (lo1) hP hD hS (lv_sub hl [0, 1] rfl) hsp
      · have hsp := z_f c37 hsp
        refine lv_aload_n hx hb dX7_send_121 rfl (lv_at hl 0 rfl) ?_
        refine va_get (D := dD) (ci := 7) (v := .ref (q 31)) (C := RX7) (T := TX7) (N := 41) hx hb hts iX7 hown hK.1 hP 0 rfl rfl 31 (by decide) f89 (fun _ h9 => h9) rfl dX7_send_122 ?_
        refine lv_iload_n hx hb dX7_send_125 rfl (lv_at hl 1 rfl) ?_
        refine lv_iconst (v := 2) hx hb dX7_send_126 (by decide) ?_
        obtain ⟨h38, hsp⟩ := z_in hsp
        refine va_iast hx hb hK.1 hP hD hS 21 0 rfl rfl h38 dX7_send_127 (fun H locs hP hD hS => ?_)
        obtain ⟨F39, eF39, hsp⟩ := z_lt hsp
        have hP : va_P dD vwCl (zQ cI q g_ F39) H := by rw [eF39]; exact hP
        have hD : va_D A (zQ cI q g_ F39) := by rw [eF39]; exact hD
        refine lv_aload_n hx hb dX7_send_128 rfl (lv_at hl 0 rfl) ?_
        refine va_get (D := dD) (ci := 7) (v := .ref (q 23)) (C := RX7) (T := TX7) (N := 41) hx hb hts iX7 hown hK.1 hP 0 rfl rfl 23 (by decide) f68 (fun _ h9 => h9) rfl dX7_send_129 ?_
        refine lv_iload_n hx hb dX7_send_132 rfl (lv_at hl 1 rfl) ?_
        refine lv_dup2_11 hx hb dX7_send_133 rfl rfl ?_
        obtain ⟨h40, hsp⟩ := z_in hsp
        refine va_iald hx hb hK.1 hP 15 0 rfl rfl h40 dX7_send_134 ?_
        refine lv_iconst (v := 1) hx hb dX7_send_135 (by decide) ?_
        refine lv_iadd hx hb dX7_send_136 ?_
        obtain ⟨h41, hsp⟩ := z_in hsp
        refine va_iast hx hb hK.1 hP hD hS 15 0 rfl rfl h41 dX7_send_137 (fun H locs hP hD hS => ?_)
        obtain ⟨F42, eF42, hsp⟩ := z_lt hsp
        have hP : va_P dD vwCl (zQ cI q g_ F42) H := by rw [eF42]; exact hP
        have hD : va_D A (zQ cI q g_ F42) := by rw [eF42]; exact hD
        refine lv_aload_n hx hb dX7_send_138 rfl (lv_at hl 0 rfl) ?_
        refine lv_dup hx hb dX7_send_139 rfl ?_
        refine va_get (D := dD) (ci := 7) (v := .int (g_ 7)) (C := RX7) (T := TX7) (N := 41) hx hb hts iX7 hown hK.1 hP 0 rfl rfl 7 (by decide) f166 (fun _ h9 => h9) rfl dX7_send_140 ?_
        refine lv_iconst (v := 1) hx hb dX7_send_143 (by decide) ?_
        refine lv_iadd hx hb dX7_send_144 ?_
        refine va_put (D := dD) (ci := 7) (v := .int ((g_ 7) + 1)) (ty := .int) (C := RX7) (T := TX7) (N := 41) hx hb hts iX7 tyX7 tyX7_ok nmX7 hown hK.1 hP hD hS 0 rfl rfl 7 (by decide) f166 (fun _ h9 => h9) rfl (by decide +kernel) rfl rfl (Nat.le_of_ble_eq_true rfl) dX7_send_145 (fun H locs hP hD hS => ?_)
        obtain ⟨g43, eg43, hsp⟩ := z_lt hsp
        have hP : va_P dD vwCl (zQ cI q g43 F42) H := by rw [eg43]; exact hP
        have hD : va_D A (zQ cI q g43 F42) := by rw [eg43]; exact hD
        refine lv_aload_n hx hb dX7_send_148 rfl (lv_at hl 0 rfl) ?_
        refine lv_iload_n hx hb dX7_send_149 rfl (lv_at hl 1 rfl) ?_
        obtain ⟨g44, F45, hc46, hsp⟩ := z_b2 hsp
        refine z_callVv ⟨hx, hb, hml, hown, hts⟩ hK (c_X7_makeMix l dD cI cA q g43 F42 (lo1) g44 F45 hc46) (cwV 1 hts gX7_send_X7_makeMix rfl rfl rfl (by decide +kernel) ⟨Nat.le_of_ble_eq_true rfl, Nat.le_of_ble_eq_true rfl⟩) (zJ.full hP hD hS hA) hS 0 7 rfl rfl rfl rfl hl.1 rfl (Nat.le_of_ble_eq_true rfl) dX7_send_150 ⟨Nat.zero_le _, Nat.zero_le _⟩ (fun H locs hP hD hS => ?_)
        refine lv_goto (tgt := 209) hx hb dX7_send_153 (by decide) ?_
        obtain ⟨rfl, rfl⟩ := z_i2 hsp
        exact hret _ _ ls 209 dX7_send_209 hP hD hS
  have K_96 : ∀ (H : Heap) (locs : List Loc) (ls : Array Slot) (g_ : zF) (F_ : Nat → zF) (lo1 : Int32) (t0 : Int32), va_P dD vwCl (zQ cI q g_ F_) H → va_D A (zQ cI q g_ F_) → va_S A s.heap H locs → lv_has ls 3 [(0, .ref (q 0)), (1, .int lo1)] → s_X7_send_b96  g_ F_ lo1 t0 = some (r_g, r_F) → W p l e rm_X7_send s m args below meth c H locs 0 0 Q (F0 m 96 ls [.int t0]) := by
    intro H locs ls g_ F_ lo1 t0 hP hD hS hl hsp
    unfold s_X7_send_b96 at hsp
    refine lv_istore_n (lv' := [(2, .int t0), (0, .ref (q 0)), (1, .int lo1)]) hx hb dX7_send_96 rfl hl (by decide) rfl (fun ls hl => ?_)
    refine lv_iload_n hx hb dX7_send_97 rfl (lv_at hl 0 rfl) ?_
    refine lv_if_eq (tgt := 108) hx hb dX7_send_98 (by decide) (fun c24 => ?_) (fun c24 => ?_)
    · have hsp := z_t c24 hsp
      exact K_108 _ _ ls g_ F_ (lo1) (t0) hP hD hS (lv_sub hl [1, 2, 0] rfl) hsp
    · have hsp := z_f c24 hsp
      refine lv_aload_n hx hb dX7_send_101 rfl (lv_at hl 1 rfl) ?_
      refine va_get (D := dD) (ci := 7) (v := .ref (q 21)) (C := RX7) (T := TX7) (N := 41) hx hb hts iX7 hown hK.1 hP 0 rfl rfl 21 (by decide) f62 (fun _ h9 => h9) rfl dX7_send_102 ?_
      refine lv_iload_n hx hb dX7_send_105 rfl (lv_at hl 2 rfl) ?_
      refine lv_iconst (v := (-1)) hx hb dX7_send_106 (by decide) ?_
      obtain ⟨h47, hsp⟩ := z_in hsp
      refine va_iast hx hb hK.1 hP hD hS 13 0 rfl rfl h47 dX7_send_107 (fun H locs hP hD hS => ?_)
      obtain ⟨F48, eF48, hsp⟩ := z_lt hsp
      have hP : va_P dD vwCl (zQ cI q g_ F48) H := by rw [eF48]; exact hP
      have hD : va_D A (zQ cI q g_ F48) := by rw [eF48]; exact hD
      exact K_108 _ _ ls g_ F48 (lo1) (t0) hP hD hS (lv_sub hl [1, 2, 0] rfl) hsp
  unfold s_X7_send at hsp
  refine lv_aload_n hx hb dX7_send_0 rfl (lv_at hl 0 rfl) ?_
  refine va_get (D := dD) (ci := 7) (v := .ref (q 31)) (C := RX7) (T := TX7) (N := 41) hx hb hts iX7 hown hK.1 hP 0 rfl rfl 31 (by decide) f89 (fun _ h9 => h9) rfl dX7_send_1 ?_
  refine lv_iload_n hx hb dX7_send_4 rfl (lv_at hl 1 rfl) ?_
  refine lv_iconst (v := 0) hx hb dX7_send_5 (by decide) ?_
  obtain ⟨h1, hsp⟩ := z_in hsp
  refine va_iast hx hb hK.1 hP hD hS 21 0 rfl rfl h1 dX7_send_6 (fun H locs hP hD hS => ?_)
  obtain ⟨F2, eF2, hsp⟩ := z_lt hsp
  have hP : va_P dD vwCl (zQ cI q g F2) H := by rw [eF2]; exact hP
  have hD : va_D A (zQ cI q g F2) := by rw [eF2]; exact hD
  refine lv_aload_n hx hb dX7_send_7 rfl (lv_at hl 0 rfl) ?_
  refine va_get (D := dD) (ci := 7) (v := .ref (q 32)) (C := RX7) (T := TX7) (N := 41) hx hb hts iX7 hown hK.1 hP 0 rfl rfl 32 (by decide) f92 (fun _ h9 => h9) rfl dX7_send_8 ?_
  refine lv_iload_n hx hb dX7_send_11 rfl (lv_at hl 1 rfl) ?_
  refine lv_aload_n hx hb dX7_send_12 rfl (lv_at hl 0 rfl) ?_
  refine va_get (D := dD) (ci := 7) (v := .ref (q 11)) (C := RX7) (T := TX7) (N := 41) hx hb hts iX7 hown hK.1 hP 0 rfl rfl 11 (by decide) f32 (fun _ h9 => h9) rfl dX7_send_13 ?_
  refine lv_iload_n hx hb dX7_send_16 rfl (lv_at hl 1 rfl) ?_
  obtain ⟨h3, hsp⟩ := z_in hsp
  refine va_iald hx hb hK.1 hP 3 0 rfl rfl h3 dX7_send_17 ?_
  obtain ⟨h4, hsp⟩ := z_in hsp
  refine va_iast hx hb hK.1 hP hD hS 22 0 rfl rfl h4 dX7_send_18 (fun H locs hP hD hS => ?_)
  obtain ⟨F5, eF5, hsp⟩ := z_lt hsp
  have hP : va_P dD vwCl (zQ cI q g F5) H := by rw [eF5]; exact hP
  have hD : va_D A (zQ cI q g F5) := by rw [eF5]; exact hD
  refine lv_aload_n hx hb dX7_send_19 rfl (lv_at hl 0 rfl) ?_
  refine va_get (D := dD) (ci := 7) (v := .ref (q 33)) (C := RX7) (T := TX7) (N := 41) hx hb hts iX7 hown hK.1 hP 0 rfl rfl 33 (by decide) f95 (fun _ h9 => h9) rfl dX7_send_20 ?_
  refine lv_iload_n hx hb dX7_send_23 rfl (lv_at hl 1 rfl) ?_
  refine lv_aload_n hx hb dX7_send_24 rfl (lv_at hl 0 rfl) ?_
  refine va_get (D := dD) (ci := 7) (v := .ref (q 12)) (C := RX7) (T := TX7) (N := 41) hx hb hts iX7 hown hK.1 hP 0 rfl rfl 12 (by decide) f35 (fun _ h9 => h9) rfl dX7_send_25 ?_
  refine lv_iload_n hx hb dX7_send_28 rfl (lv_at hl 1 rfl) ?_
  obtain ⟨h6, hsp⟩ := z_in hsp
  refine va_iald hx hb hK.1 hP 4 0 rfl rfl h6 dX7_send_29 ?_
  obtain ⟨h7, hsp⟩ := z_in hsp
  refine va_iast hx hb hK.1 hP hD hS 23 0 rfl rfl h7 dX7_send_30 (fun H locs hP hD hS => ?_)
  obtain ⟨F8, eF8, hsp⟩ := z_lt hsp
  have hP : va_P dD vwCl (zQ cI q g F8) H := by rw [eF8]; exact hP
  have hD : va_D A (zQ cI q g F8) := by rw [eF8]; exact hD
  refine lv_aload_n hx hb dX7_send_31 rfl (lv_at hl 0 rfl) ?_
  refine va_get (D := dD) (ci := 7) (v := .ref (q 34)) (C := RX7) (T := TX7) (N := 41) hx hb hts iX7 hown hK.1 hP 0 rfl rfl 34 (by decide) f98 (fun _ h9 => h9) rfl dX7_send_32 ?_
  refine lv_iload_n hx hb dX7_send_35 rfl (lv_at hl 1 rfl) ?_
  refine lv_aload_n hx hb dX7_send_36 rfl (lv_at hl 0 rfl) ?_
  refine va_get (D := dD) (ci := 7) (v := .ref (q 13)) (C := RX7) (T := TX7) (N := 41) hx hb hts iX7 hown hK.1 hP 0 rfl rfl 13 (by decide) f38 (fun _ h9 => h9) rfl dX7_send_37 ?_
  refine lv_iload_n hx hb dX7_send_40 rfl (lv_at hl 1 rfl) ?_
  obtain ⟨h9, hsp⟩ := z_in hsp
  refine va_iald hx hb hK.1 hP 5 0 rfl rfl h9 dX7_send_41 ?_
  obtain ⟨h10, hsp⟩ := z_in hsp
  refine va_iast hx hb hK.1 hP hD hS 24 0 rfl rfl h10 dX7_send_42 (fun H locs hP hD hS => ?_)
  obtain ⟨F11, eF11, hsp⟩ := z_lt hsp
  have hP : va_P dD vwCl (zQ cI q g F11) H := by rw [eF11]; exact hP
  have hD : va_D A (zQ cI q g F11) := by rw [eF11]; exact hD
  refine lv_aload_n hx hb dX7_send_43 rfl (lv_at hl 0 rfl) ?_
  refine va_get (D := dD) (ci := 7) (v := .ref (q 35)) (C := RX7) (T := TX7) (N := 41) hx hb hts iX7 hown hK.1 hP 0 rfl rfl 35 (by decide) f101 (fun _ h9 => h9) rfl dX7_send_44 ?_
  refine lv_iload_n hx hb dX7_send_47 rfl (lv_at hl 1 rfl) ?_
  refine lv_aload_n hx hb dX7_send_48 rfl (lv_at hl 0 rfl) ?_
  refine lv_iload_n hx hb dX7_send_49 rfl (lv_at hl 1 rfl) ?_
  obtain ⟨v12, hc13, hsp⟩ := z_b1 hsp
  refine z_callVi ⟨hx, hb, hml, hown, hts⟩ hK (c_X7_rank l dD cI cA q g F11 (p1) v12 hc13) (cwV 1 hts gX7_send_X7_rank rfl rfl rfl (by decide +kernel) ⟨Nat.le_of_ble_eq_true rfl, Nat.le_of_ble_eq_true rfl⟩) (zJ.full hP hD hS hA) hS 0 7 rfl rfl rfl rfl hl.1 rfl (Nat.le_of_ble_eq_true rfl) dX7_send_50 ⟨Nat.zero_le _, Nat.zero_le _⟩ (fun H locs hP hD hS => ?_)
  obtain ⟨h14, hsp⟩ := z_in hsp
  refine va_iast hx hb hK.1 hP hD hS 25 0 rfl rfl h14 dX7_send_53 (fun H locs hP hD hS => ?_)
  obtain ⟨F15, eF15, hsp⟩ := z_lt hsp
  have hP : va_P dD vwCl (zQ cI q g F15) H := by rw [eF15]; exact hP
  have hD : va_D A (zQ cI q g F15) := by rw [eF15]; exact hD
  refine lv_aload_n hx hb dX7_send_54 rfl (lv_at hl 0 rfl) ?_
  refine va_get (D := dD) (ci := 7) (v := .ref (q 38)) (C := RX7) (T := TX7) (N := 41) hx hb hts iX7 hown hK.1 hP 0 rfl rfl 38 (by decide) f110 (fun _ h9 => h9) rfl dX7_send_55 ?_
  refine lv_iload_n hx hb dX7_send_58 rfl (lv_at hl 1 rfl) ?_
  refine lv_aload_n hx hb dX7_send_59 rfl (lv_at hl 0 rfl) ?_
  refine va_get (D := dD) (ci := 7) (v := .ref (q 27)) (C := RX7) (T := TX7) (N := 41) hx hb hts iX7 hown hK.1 hP 0 rfl rfl 27 (by decide) f80 (fun _ h9 => h9) rfl dX7_send_60 ?_
  refine lv_iload_n hx hb dX7_send_63 rfl (lv_at hl 1 rfl) ?_
  obtain ⟨h16, hsp⟩ := z_in hsp
  refine va_iald hx hb hK.1 hP 19 0 rfl rfl h16 dX7_send_64 ?_
  obtain ⟨h17, hsp⟩ := z_in hsp
  refine va_iast hx hb hK.1 hP hD hS 28 0 rfl rfl h17 dX7_send_65 (fun H locs hP hD hS => ?_)
  obtain ⟨F18, eF18, hsp⟩ := z_lt hsp
  have hP : va_P dD vwCl (zQ cI q g F18) H := by rw [eF18]; exact hP
  have hD : va_D A (zQ cI q g F18) := by rw [eF18]; exact hD
  refine lv_aload_n hx hb dX7_send_66 rfl (lv_at hl 0 rfl) ?_
  refine va_get (D := dD) (ci := 7) (v := .ref (q 39)) (C := RX7) (T := TX7) (N := 41) hx hb hts iX7 hown hK.1 hP 0 rfl rfl 39 (by decide) f113 (fun _ h9 => h9) rfl dX7_send_67 ?_
  refine lv_iload_n hx hb dX7_send_70 rfl (lv_at hl 1 rfl) ?_
  refine lv_aload_n hx hb dX7_send_71 rfl (lv_at hl 0 rfl) ?_
  refine va_get (D := dD) (ci := 7) (v := .ref (q 28)) (C := RX7) (T := TX7) (N := 41) hx hb hts iX7 hown hK.1 hP 0 rfl rfl 28 (by decide) f83 (fun _ h9 => h9) rfl dX7_send_72 ?_
  refine lv_iload_n hx hb dX7_send_75 rfl (lv_at hl 1 rfl) ?_
  obtain ⟨h19, hsp⟩ := z_in hsp
  refine va_iald hx hb hK.1 hP 20 0 rfl rfl h19 dX7_send_76 ?_
  obtain ⟨h20, hsp⟩ := z_in hsp
  refine va_iast hx hb hK.1 hP hD hS 29 0 rfl rfl h20 dX7_send_77 (fun H locs hP hD hS => ?_)
  obtain ⟨F21, eF21, hsp⟩ := z_lt hsp
  have hP : va_P dD vwCl (zQ cI q g F21) H := by rw [eF21]; exact hP
  have hD : va_D A (zQ cI q g F21) := by rw [eF21]; exact hD
  refine lv_aload_n hx hb dX7_send_78 rfl (lv_at hl 0 rfl) ?_
  refine va_get (D := dD) (ci := 7) (v := .ref (q 21)) (C := RX7) (T := TX7) (N := 41) hx hb hts iX7 hown hK.1 hP 0 rfl rfl 21 (by decide) f62 (fun _ h9 => h9) rfl dX7_send_79 ?_
  refine lv_iload_n hx hb dX7_send_82 rfl (lv_at hl 1 rfl) ?_
  obtain ⟨h22, hsp⟩ := z_in hsp
  refine va_iald hx hb hK.1 hP 13 0 rfl rfl h22 dX7_send_83 ?_
  refine lv_aload_n hx hb dX7_send_84 rfl (lv_at hl 0 rfl) ?_
  refine va_get (D := dD) (ci := 7) (v := .int (g 6)) (C := RX7) (T := TX7) (N := 41) hx hb hts iX7 hown hK.1 hP 0 rfl rfl 6 (by decide) f131 (fun _ h9 => h9) rfl dX7_send_85 ?_
  refine lv_icmp_ne (tgt := 95) hx hb dX7_send_88 (by decide) (fun c23 => ?_) (fun c23 => ?_)
  · have hsp := z_f c23 hsp
    refine lv_iconst (v := 0) hx hb dX7_send_95 (by decide) ?_
    exact K_96 _ _ ls g F21 (p1) (0) hP hD hS (lv_sub hl [0, 1] rfl) hsp
  · have hsp := z_t c23 hsp
    refine lv_iconst (v := 1) hx hb dX7_send_91 (by decide) ?_
    refine lv_goto (tgt := 96) hx hb dX7_send_92 (by decide) ?_
    exact K_96 _ _ ls g F21 (p1) (1) hP hD hS (lv_sub hl [0, 1] rfl) hsp
def s_X7_listen_b7  : Nat → (zF) → (Nat → zF) → (Int32) → (Int32) → (Int32) → (Int32) → Option ((zF) × (Nat → zF))
  | 0, _, _, _, _, _, _ => none
  | n7 + 1, g_, F_, lo1, lo2, lo3, lo4 => (if (g_ 5) ≤ lo4 then if lo1 < 0 ∨ 12 ≤ (lo1).toNatClampNeg then none else zl (zu F_ 40 (lo1).toNatClampNeg ((-1))) fun (F3 : Nat → zF) => if lo1 < 0 ∨ 12 ≤ (lo1).toNatClampNeg then none else (if ((F3 31) (lo1).toNatClampNeg) = 0 then (if lo3 = 0 then some (g_, F3) else (if lo3 ≤ 1 then zb2 (s_X7_draw g_ F3 (100)) fun (v8 : Int32) (g9 : zF) => if ((12 * lo1) + lo2) < 0 ∨ 144 ≤ (((12 * lo1) + lo2)).toNatClampNeg then none else (if ((F3 10) (((12 * lo1) + lo2)).toNatClampNeg) ≤ v8 then if lo1 < 0 ∨ 12 ≤ (lo1).toNatClampNeg then none else zl (zu F3 40 (lo1).toNatClampNeg (lo2)) fun (F14 : Nat → zF) => some (g9, F14) else if lo1 < 0 ∨ 12 ≤ (lo1).toNatClampNeg then none else if lo1 < 0 ∨ 12 ≤ (lo1).toNatClampNeg then none else zl (zu F3 25 (lo1).toNatClampNeg ((((F3 25) (lo1).toNatClampNeg) + 1))) fun (F17 : Nat → zF) => some (g9, F17)) else if lo1 < 0 ∨ 12 ≤ (lo1).toNatClampNeg then none else if lo1 < 0 ∨ 12 ≤ (lo1).toNatClampNeg then none else zl (zu F3 24 (lo1).toNatClampNeg ((((F3 24) (lo1).toNatClampNeg) + 1))) fun (F20 : Nat → zF) => some (g_, F20))) else some (g_, F3)) else if lo4 < 0 ∨ 12 ≤ (lo4).toNatClampNeg then none else (if ((F_ 31) (lo4).toNatClampNeg) = 0 then zl (lo4 + 1) fun (x23 : Int32) => (s_X7_listen_b7  n7 g_ F_ (lo1) (lo2) (lo3) (x23)) else if ((12 * lo1) + lo4) < 0 ∨ 144 ≤ (((12 * lo1) + lo4)).toNatClampNeg then none else (if 0 ≤ ((F_ 10) (((12 * lo1) + lo4)).toNatClampNeg) then zl (lo3 + 1) fun (x26 : Int32) => zl (lo4 + 1) fun (x27 : Int32) => (s_X7_listen_b7  n7 g_ F_ (lo1) (lo4) (x26) (x27)) else zl (lo4 + 1) fun (x28 : Int32) => (s_X7_listen_b7  n7 g_ F_ (lo1) (lo2) (lo3) (x28)))))
def s_X7_listen (g : zF) (F : Nat → zF) (p1 : Int32) : Option ((zF) × (Nat → zF)) := (s_X7_listen_b7  13 g F (p1) ((-1)) (0) (0))
abbrev rm_X7_listen : Room := { frames := 1, cells := 0, slots := 0, locals := 21 }
set_option maxHeartbeats 4000000 in
set_option maxRecDepth 100000 in
theorem c_X7_listen (l : Launch) (dD : va_G) (cI cA : ClassId) (q : Nat → Nat) (g : zF) (F : Nat → zF) (p1 : Int32) (r_g : zF) (r_F : Nat → zF) (hsp : s_X7_listen g F p1 = some (r_g, r_F)) : zMv l yX7_listen wsX7_listen rm_X7_listen dD cI cA [.ref (q 0), .int p1] (zQ cI q g F) (zQ cI q r_g r_F) := by
  refine zMv_of (cc := cX7_listen) (maxL := 5) (by decide) rfl (Nat.le_of_ble_eq_true rfl) ?_
  intro p e s m args below meth c A Q ls hx hb hml hown hts hK hA hP hD hl hret
  have hown : s.vm.findClass RX7 = some m.cls := hown
  have iX7 : ∀ w ∈ wsX70, w ∈ wsX7_listen := by decide +kernel
  have f119 := hts (.fieldLink RX7 119 "MeshFieldModel" "machines" "I") (by decide +kernel)
  have f116 := hts (.fieldLink RX7 116 "MeshFieldModel" "from" "[I") (by decide +kernel)
  have f89 := hts (.fieldLink RX7 89 "MeshFieldModel" "sends" "[I") (by decide +kernel)
  have f29 := hts (.fieldLink RX7 29 "MeshFieldModel" "odds" "[I") (by decide +kernel)
  have f74 := hts (.fieldLink RX7 74 "MeshFieldModel" "lost" "[I") (by decide +kernel)
  have f71 := hts (.fieldLink RX7 71 "MeshFieldModel" "spoilt" "[I") (by decide +kernel)
  have hS : va_S A s.heap s.heap [] := va_S.rf
  have hl : lv_has ls 5 [(0, .ref (q 0)), (1, .int p1)] := hl
  have K_7 : ∀ (nf : Nat) (H : Heap) (locs : List Loc) (ls : Array Slot) (g_ : zF) (F_ : Nat → zF) (lo1 : Int32) (lo2 : Int32) (lo3 : Int32) (lo4 : Int32), va_P dD vwCl (zQ cI q g_ F_) H → va_D A (zQ cI q g_ F_) → va_S A s.heap H locs → lv_has ls 5 [(0, .ref (q 0)), (1, .int lo1), (2, .int lo2), (3, .int lo3), (4, .int lo4)] → s_X7_listen_b7  nf g_ F_ lo1 lo2 lo3 lo4 = some (r_g, r_F) → W p l e rm_X7_listen s m args below meth c H locs 0 0 Q (F0 m 7 ls []) := by
    intro nf
    induction nf with
    | zero =>
      intro H locs ls g_ F_ lo1 lo2 lo3 lo4 hP hD hS hl hsp
      exact absurd (show (none : Option ((zF) × (Nat → zF))) = some (r_g, r_F) from hsp) (fun h => by cases h)
    | succ n7 ih7 =>
      intro H locs ls g_ F_ lo1 lo2 lo3 lo4 hP hD hS hl hsp
      rw [s_X7_listen_b7] at hsp
      refine lv_iload hx hb dX7_listen_7 (lv_at hl 4 rfl) ?_
      refine lv_aload_n hx hb dX7_listen_9 rfl (lv_at hl 0 rfl) ?_
      refine va_get (D := dD) (ci := 7) (v := .int (g_ 5)) (C := RX7) (T := TX7) (N := 41) hx hb hts iX7 hown hK.1 hP 0 rfl rfl 5 (by decide) f119 (fun _ h9 => h9) rfl dX7_listen_10 ?_
      refine lv_icmp_ge (tgt := 56) hx hb dX7_listen_13 (by decide) (fun c1 => ?_) (fun c1 => ?_)
      · have hsp := z_t c1 hsp
        refine lv_aload_n hx hb dX7_listen_56 rfl (lv_at hl 0 rfl) ?_
        refine va_get (D := dD) (ci := 7) (v := .ref (q 40)) (C := RX7) (T := TX7) (N := 41) hx hb hts iX7 hown hK.1 hP 0 rfl rfl 40 (by decide) f116 (fun _ h9 => h9) rfl dX7_listen_57 ?_
        refine lv_iload_n hx hb dX7_listen_60 rfl (lv_at hl 1 rfl) ?_
        refine lv_iconst (v := (-1)) hx hb dX7_listen_61 (by decide) ?_
        obtain ⟨h2, hsp⟩ := z_in hsp
        refine va_iast hx hb hK.1 hP hD hS 30 0 rfl rfl h2 dX7_listen_62 (fun H locs hP hD hS => ?_)
        obtain ⟨F3, eF3, hsp⟩ := z_lt hsp
        have hP : va_P dD vwCl (zQ cI q g_ F3) H := by rw [eF3]; exact hP
        have hD : va_D A (zQ cI q g_ F3) := by rw [eF3]; exact hD
        refine lv_aload_n hx hb dX7_listen_63 rfl (lv_at hl 0 rfl) ?_
        refine va_get (D := dD) (ci := 7) (v := .ref (q 31)) (C := RX7) (T := TX7) (N := 41) hx hb hts iX7 hown hK.1 hP 0 rfl rfl 31 (by decide) f89 (fun _ h9 => h9) rfl dX7_listen_64 ?_
        refine lv_iload_n hx hb dX7_listen_67 rfl (lv_at hl 1 rfl) ?_
        obtain ⟨h4, hsp⟩ := z_in hsp
        refine va_iald hx hb hK.1 hP 21 0 rfl rfl h4 dX7_listen_68 ?_
        refine lv_if_ne (tgt := 76) hx hb dX7_listen_69 (by decide) (fun c5 => ?_) (fun c5 => ?_)
        · have hsp := z_f c5 hsp
          obtain ⟨rfl, rfl⟩ := z_i2 hsp
          exact hret _ _ ls 76 dX7_listen_76 hP hD hS
        · have hsp := z_t c5 hsp
          refine lv_iload_n hx hb dX7_listen_72 rfl (lv_at hl 3 rfl) ?_
          refine lv_if_ne (tgt := 77) hx hb dX7_listen_73 (by decide) (fun c6 => ?_) (fun c6 => ?_)
          · have hsp := z_f c6 hsp
            refine lv_iload_n hx hb dX7_listen_77 rfl (lv_at hl 3 rfl) ?_
            refine lv_iconst (v := 1) hx hb dX7_listen_78 (by decide) ?_
            refine lv_icmp_le (tgt := 95) hx hb dX7_listen_79 (by decide) (fun c7 => ?_) (fun c7 => ?_)
            · have hsp := z_t c7 hsp
              refine lv_aload_n hx hb dX7_listen_95 rfl (lv_at hl 0 rfl) ?_
              refine lv_bipush (v := 100) hx hb dX7_listen_96 (by decide) ?_
              obtain ⟨v8, g9, hc10, hsp⟩ := z_b2 hsp
              refine z_callVi ⟨hx, hb, hml, hown, hts⟩ hK (c_X7_draw l dD cI cA q g_ F3 (100) v8 g9 hc10) (cwV 1 hts gX7_listen_X7_draw rfl rfl rfl (by decide +kernel) ⟨Nat.le_of_ble_eq_true rfl, Nat.le_of_ble_eq_true rfl⟩) (zJ.full hP hD hS hA) hS 0 7 rfl rfl rfl rfl hl.1 rfl (Nat.le_of_ble_eq_true rfl) dX7_listen_98 ⟨Nat.zero_le _, Nat.zero_le _⟩ (fun H locs hP hD hS => ?_)
              refine lv_aload_n hx hb dX7_listen_101 rfl (lv_at hl 0 rfl) ?_
              refine va_get (D := dD) (ci := 7) (v := .ref (q 10)) (C := RX7) (T := TX7) (N := 41) hx hb hts iX7 hown hK.1 hP 0 rfl rfl 10 (by decide) f29 (fun _ h9 => h9) rfl dX7_listen_102 ?_
              refine lv_bipush (v := 12) hx hb dX7_listen_105 (by decide) ?_
              refine lv_iload_n hx hb dX7_listen_107 rfl (lv_at hl 1 rfl) ?_
              refine lv_imul hx hb dX7_listen_108 ?_
              refine lv_iload_n hx hb dX7_listen_109 rfl (lv_at hl 2 rfl) ?_
              refine lv_iadd hx hb dX7_listen_110 ?_
              obtain ⟨h11, hsp⟩ := z_in hsp
              refine va_iald hx hb hK.1 hP 2 0 rfl rfl h11 dX7_listen_111 ?_
              refine lv_icmp_ge (tgt := 128) hx hb dX7_listen_112 (by decide) (fun c12 => ?_) (fun c12 => ?_)
              · have hsp := z_t c12 hsp
                refine lv_aload_n hx hb dX7_listen_128 rfl (lv_at hl 0 rfl) ?_
                refine va_get (D := dD) (ci := 7) (v := .ref (q 40)) (C := RX7) (T := TX7) (N := 41) hx hb hts iX7 hown hK.1 hP 0 rfl rfl 40 (by decide) f116 (fun _ h9 => h9) rfl dX7_listen_129 ?_
                refine lv_iload_n hx hb dX7_listen_132 rfl (lv_at hl 1 rfl) ?_
                refine lv_iload_n hx hb dX7_listen_133 rfl (lv_at hl 2 rfl) ?_
                obtain ⟨h13, hsp⟩ := z_in hsp
                refine va_iast hx hb hK.1 hP hD hS 30 0 rfl rfl h13 dX7_listen_134 (fun H locs hP hD hS => ?_)
                obtain ⟨F14, eF14, hsp⟩ := z_lt hsp
                have hP : va_P dD vwCl (zQ cI q g9 F14) H := by rw [eF14]; exact hP
                have hD : va_D A (zQ cI q g9 F14) := by rw [eF14]; exact hD
                obtain ⟨rfl, rfl⟩ := z_i2 hsp
                exact hret _ _ ls 135 dX7_listen_135 hP hD hS
              · have hsp := z_f c12 hsp
                refine lv_aload_n hx hb dX7_listen_115 rfl (lv_at hl 0 rfl) ?_
                refine va_get (D := dD) (ci := 7) (v := .ref (q 25)) (C := RX7) (T := TX7) (N := 41) hx hb hts iX7 hown hK.1 hP 0 rfl rfl 25 (by decide) f74 (fun _ h9 => h9) rfl dX7_listen_116 ?_
                refine lv_iload_n hx hb dX7_listen_119 rfl (lv_at hl 1 rfl) ?_
                refine lv_dup2_11 hx hb dX7_listen_120 rfl rfl ?_
                obtain ⟨h15, hsp⟩ := z_in hsp
                refine va_iald hx hb hK.1 hP 17 0 rfl rfl h15 dX7_listen_121 ?_
                refine lv_iconst (v := 1) hx hb dX7_listen_122 (by decide) ?_
                refine lv_iadd hx hb dX7_listen_123 ?_
                obtain ⟨h16, hsp⟩ := z_in hsp
                refine va_iast hx hb hK.1 hP hD hS 17 0 rfl rfl h16 dX7_listen_124 (fun H locs hP hD hS => ?_)
                obtain ⟨F17, eF17, hsp⟩ := z_lt hsp
                have hP : va_P dD vwCl (zQ cI q g9 F17) H := by rw [eF17]; exact hP
                have hD : va_D A (zQ cI q g9 F17) := by rw [eF17]; exact hD
                refine lv_goto (tgt := 135) hx hb dX7_listen_125 (by decide) ?_
                obtain ⟨rfl, rfl⟩ := z_i2 hsp
                exact hret _ _ ls 135 dX7_listen_135 hP hD hS
            · have hsp := z_f c7 hsp
              refine lv_aload_n hx hb dX7_listen_82 rfl (lv_at hl 0 rfl) ?_
              refine va_get (D := dD) (ci := 7) (v := .ref (q 24)) (C := RX7) (T := TX7) (N := 41) hx hb hts iX7 hown hK.1 hP 0 rfl rfl 24 (by decide) f71 (fun _ h9 => h9) rfl dX7_listen_83 ?_
              refine lv_iload_n hx hb dX7_listen_86 rfl (lv_at hl 1 rfl) ?_
              refine lv_dup2_11 hx hb dX7_listen_87 rfl rfl ?_
              obtain ⟨h18, hsp⟩ := z_in hsp
              refine va_iald hx hb hK.1 hP 16 0 rfl rfl h18 dX7_listen_88 ?_
              refine lv_iconst (v := 1) hx hb dX7_listen_89 (by decide) ?_
              refine lv_iadd hx hb dX7_listen_90 ?_
              obtain ⟨h19, hsp⟩ := z_in hsp
              refine va_iast hx hb hK.1 hP hD hS 16 0 rfl rfl h19 dX7_listen_91 (fun H locs hP hD hS => ?_)
              obtain ⟨F20, eF20, hsp⟩ := z_lt hsp
              have hP : va_P dD vwCl (zQ cI q g_ F20) H := by rw [eF20]; exact hP
              have hD : va_D A (zQ cI q g_ F20) := by rw [eF20]; exact hD
              refine lv_goto (tgt := 135) hx hb dX7_listen_92 (by decide) ?_
              obtain ⟨rfl, rfl⟩ := z_i2 hsp
              exact hret _ _ ls 135 dX7_listen_135 hP hD hS
          · have hsp := z_t c6 hsp
            obtain ⟨rfl, rfl⟩ := z_i2 hsp
            exact hret _ _ ls 76 dX7_listen_76 hP hD hS
      · have hsp := z_f c1 hsp
        refine lv_aload_n hx hb dX7_listen_16 rfl (lv_at hl 0 rfl) ?_
        refine va_get (D := dD) (ci := 7) (v := .ref (q 31)) (C := RX7) (T := TX7) (N := 41) hx hb hts iX7 hown hK.1 hP 0 rfl rfl 31 (by decide) f89 (fun _ h9 => h9) rfl dX7_listen_17 ?_
        refine lv_iload hx hb dX7_listen_20 (lv_at hl 4 rfl) ?_
        obtain ⟨h21, hsp⟩ := z_in hsp
        refine va_iald hx hb hK.1 hP 21 0 rfl rfl h21 dX7_listen_22 ?_
        refine lv_if_eq (tgt := 50) hx hb dX7_listen_23 (by decide) (fun c22 => ?_) (fun c22 => ?_)
        · have hsp := z_t c22 hsp
          obtain ⟨x23, ex23, hsp⟩ := z_lt hsp
          refine lv_iinc (v := x23) (lv' := [(4, .int x23), (0, .ref (q 0)), (1, .int lo1), (2, .int lo2), (3, .int lo3)]) hx hb dX7_listen_50 hl (k := 4) rfl (by rw [ex23]; rfl) (by decide) rfl (fun ls hl => ?_)
          refine lv_goto (tgt := 7) hx hb dX7_listen_53 (by decide) ?_
          exact ih7 _ _ ls g_ F_ (lo1) (lo2) (lo3) (x23) hP hD hS (lv_sub hl [1, 2, 3, 4, 0] rfl) hsp
        · have hsp := z_f c22 hsp
          refine lv_aload_n hx hb dX7_listen_26 rfl (lv_at hl 0 rfl) ?_
          refine va_get (D := dD) (ci := 7) (v := .ref (q 10)) (C := RX7) (T := TX7) (N := 41) hx hb hts iX7 hown hK.1 hP 0 rfl rfl 10 (by decide) f29 (fun _ h9 => h9) rfl dX7_listen_27 ?_
          refine lv_bipush (v := 12) hx hb dX7_listen_30 (by decide) ?_
          refine lv_iload_n hx hb dX7_listen_32 rfl (lv_at hl 1 rfl) ?_
          refine lv_imul hx hb dX7_listen_33 ?_
          refine lv_iload hx hb dX7_listen_34 (lv_at hl 4 rfl) ?_
          refine lv_iadd hx hb dX7_listen_36 ?_
          obtain ⟨h24, hsp⟩ := z_in hsp
          refine va_iald hx hb hK.1 hP 2 0 rfl rfl h24 dX7_listen_37 ?_
          refine lv_if_ge (tgt := 44) hx hb dX7_listen_38 (by decide) (fun c25 => ?_) (fun c25 => ?_)
          · have hsp := z_t c25 hsp
            refine lv_iload hx hb dX7_listen_44 (lv_at hl 4 rfl) ?_
            refine lv_istore_n (lv' := [(2, .int lo4), (0, .ref (q 0)), (1, .int lo1), (3, .int lo3), (4, .int lo4)]) hx hb dX7_listen_46 rfl hl (by decide) rfl (fun ls hl => ?_)
            obtain ⟨x26, ex26, hsp⟩ := z_lt hsp
            refine lv_iinc (v := x26) (lv' := [(3, .int x26), (2, .int lo4), (0, .ref (q 0)), (1, .int lo1), (4, .int lo4)]) hx hb dX7_listen_47 hl (k := 3) rfl (by rw [ex26]; rfl) (by decide) rfl (fun ls hl => ?_)
            obtain ⟨x27, ex27, hsp⟩ := z_lt hsp
            refine lv_iinc (v := x27) (lv' := [(4, .int x27), (3, .int x26), (2, .int lo4), (0, .ref (q 0)), (1, .int lo1)]) hx hb dX7_listen_50 hl (k := 4) rfl (by rw [ex27]; rfl) (by decide) rfl (fun ls hl => ?_)
            refine lv_goto (tgt := 7) hx hb dX7_listen_53 (by decide) ?_
            exact ih7 _ _ ls g_ F_ (lo1) (lo4) (x26) (x27) hP hD hS (lv_sub hl [3, 4, 2, 1, 0] rfl) hsp
          · have hsp := z_f c25 hsp
            refine lv_goto (tgt := 50) hx hb dX7_listen_41 (by decide) ?_
            obtain ⟨x28, ex28, hsp⟩ := z_lt hsp
            refine lv_iinc (v := x28) (lv' := [(4, .int x28), (0, .ref (q 0)), (1, .int lo1), (2, .int lo2), (3, .int lo3)]) hx hb dX7_listen_50 hl (k := 4) rfl (by rw [ex28]; rfl) (by decide) rfl (fun ls hl => ?_)
            refine lv_goto (tgt := 7) hx hb dX7_listen_53 (by decide) ?_
            exact ih7 _ _ ls g_ F_ (lo1) (lo2) (lo3) (x28) hP hD hS (lv_sub hl [1, 2, 3, 4, 0] rfl) hsp
  unfold s_X7_listen at hsp
  refine lv_iconst (v := (-1)) hx hb dX7_listen_0 (by decide) ?_
  refine lv_istore_n (lv' := [(2, .int (-1)), (0, .ref (q 0)), (1, .int p1)]) hx hb dX7_listen_1 rfl hl (by decide) rfl (fun ls hl => ?_)
  refine lv_iconst (v := 0) hx hb dX7_listen_2 (by decide) ?_
  refine lv_istore_n (lv' := [(3, .int 0), (2, .int (-1)), (0, .ref (q 0)), (1, .int p1)]) hx hb dX7_listen_3 rfl hl (by decide) rfl (fun ls hl => ?_)
  refine lv_iconst (v := 0) hx hb dX7_listen_4 (by decide) ?_
  refine lv_istore (lv' := [(4, .int 0), (3, .int 0), (2, .int (-1)), (0, .ref (q 0)), (1, .int p1)]) hx hb dX7_listen_5 hl (by decide) rfl (fun ls hl => ?_)
  exact K_7 13 _ _ ls g F (p1) ((-1)) (0) (0) hP hD hS (lv_sub hl [3, 4, 2, 1, 0] rfl) hsp
def s_X7_tell_b70  (g_ : zF) (F_ : Nat → zF) (lo1 : Int32) (t0 : Int32) : Option ((zF) × (Nat → zF)) := (if t0 = 0 then some (g_, F_) else if lo1 < 0 ∨ 12 ≤ (lo1).toNatClampNeg then none else (if 0 ≤ ((F_ 21) (lo1).toNatClampNeg) then some (g_, F_) else zb2 (s_X7_draw g_ F_ ((g_ 4))) fun (v13 : Int32) (g14 : zF) => if lo1 < 0 ∨ 12 ≤ (lo1).toNatClampNeg then none else zl (zu F_ 21 (lo1).toNatClampNeg ((((g_ 6) + 1) + v13))) fun (F17 : Nat → zF) => some (g14, F17)))
def s_X7_tell_b65  (g_ : zF) (F_ : Nat → zF) (lo1 : Int32) : Option ((zF) × (Nat → zF)) := (s_X7_tell_b70  g_ F_ (lo1) (1))
def s_X7_tell_b69  (g_ : zF) (F_ : Nat → zF) (lo1 : Int32) : Option ((zF) × (Nat → zF)) := (s_X7_tell_b70  g_ F_ (lo1) (0))
def s_X7_tell_b34  (g_ : zF) (F_ : Nat → zF) (lo1 : Int32) (lo2 : Int32) (lo3 : Int32) (lo4 : Int32) : Option ((zF) × (Nat → zF)) := zb2 (s_X7_stir g_ F_ (lo1)) fun (g5 : zF) (F6 : Nat → zF) => if lo1 < 0 ∨ 12 ≤ (lo1).toNatClampNeg then none else (if lo2 < ((F6 11) (lo1).toNatClampNeg) then (s_X7_tell_b65  g5 F6 (lo1)) else if lo1 < 0 ∨ 12 ≤ (lo1).toNatClampNeg then none else (if lo2 = ((F6 11) (lo1).toNatClampNeg) then (if lo4 ≤ lo3 then (s_X7_tell_b69  g5 F6 (lo1)) else (s_X7_tell_b65  g5 F6 (lo1))) else (s_X7_tell_b69  g5 F6 (lo1))))
def s_X7_tell (g : zF) (F : Nat → zF) (p1 : Int32) (p2 : Int32) (p3 : Int32) : Option ((zF) × (Nat → zF)) := zb1 (s_X7_rank g F (p1)) fun (v1 : Int32) => if p1 < 0 ∨ 12 ≤ (p1).toNatClampNeg then none else (if p2 = ((F 11) (p1).toNatClampNeg) then (if p3 = v1 then if p1 < 0 ∨ 12 ≤ (p1).toNatClampNeg then none else if p1 < 0 ∨ 12 ≤ (p1).toNatClampNeg then none else zl (zu F 20 (p1).toNatClampNeg ((((F 20) (p1).toNatClampNeg) + 1))) fun (F24 : Nat → zF) => some (g, F24) else (s_X7_tell_b34  g F (p1) (p2) (p3) (v1))) else (s_X7_tell_b34  g F (p1) (p2) (p3) (v1)))
abbrev rm_X7_tell : Room := { frames := 3, cells := 0, slots := 0, locals := 64 }
set_option maxHeartbeats 4000000 in
set_option maxRecDepth 100000 in
theorem c_X7_tell (l : Launch) (dD : va_G) (cI cA : ClassId) (q : Nat → Nat) (g : zF) (F : Nat → zF) (p1 : Int32) (p2 : Int32) (p3 : Int32) (r_g : zF) (r_F : Nat → zF) (hsp : s_X7_tell g F p1 p2 p3 = some (r_g, r_F)) : zMv l yX7_tell wsX7_tell rm_X7_tell dD cI cA [.ref (q 0), .int p1, .int p2, .int p3] (zQ cI q g F) (zQ cI q r_g r_F) := by
  refine zMv_of (cc := cX7_tell) (maxL := 6) (by decide) rfl (Nat.le_of_ble_eq_true rfl) ?_
  intro p e s m args below meth c A Q ls hx hb hml hown hts hK hA hP hD hl hret
  have hown : s.vm.findClass RX7 = some m.cls := hown
  have iX7 : ∀ w ∈ wsX70, w ∈ wsX7_tell := by decide +kernel
  have f32 := hts (.fieldLink RX7 32 "MeshFieldModel" "number" "[I") (by decide +kernel)
  have f62 := hts (.fieldLink RX7 62 "MeshFieldModel" "dataAt" "[I") (by decide +kernel)
  have f131 := hts (.fieldLink RX7 131 "MeshFieldModel" "tick" "I") (by decide +kernel)
  have f22 := hts (.fieldLink RX7 22 "MeshFieldModel" "wait" "I") (by decide +kernel)
  have f59 := hts (.fieldLink RX7 59 "MeshFieldModel" "heard" "[I") (by decide +kernel)
  have hS : va_S A s.heap s.heap [] := va_S.rf
  have hl : lv_has ls 6 [(0, .ref (q 0)), (1, .int p1), (2, .int p2), (3, .int p3)] := hl
  have K_70 : ∀ (H : Heap) (locs : List Loc) (ls : Array Slot) (g_ : zF) (F_ : Nat → zF) (lo1 : Int32) (t0 : Int32), va_P dD vwCl (zQ cI q g_ F_) H → va_D A (zQ cI q g_ F_) → va_S A s.heap H locs → lv_has ls 6 [(0, .ref (q 0)), (1, .int lo1)] → s_X7_tell_b70  g_ F_ lo1 t0 = some (r_g, r_F) → W p l e rm_X7_tell s m args below meth c H locs 0 0 Q (F0 m 70 ls [.int t0]) := by
    intro H locs ls g_ F_ lo1 t0 hP hD hS hl hsp
    unfold s_X7_tell_b70 at hsp
    refine lv_istore (lv' := [(5, .int t0), (0, .ref (q 0)), (1, .int lo1)]) hx hb dX7_tell_70 hl (by decide) rfl (fun ls hl => ?_)
    refine lv_iload hx hb dX7_tell_72 (lv_at hl 0 rfl) ?_
    refine lv_if_eq (tgt := 107) hx hb dX7_tell_74 (by decide) (fun c10 => ?_) (fun c10 => ?_)
    · have hsp := z_t c10 hsp
      obtain ⟨rfl, rfl⟩ := z_i2 hsp
      exact hret _ _ ls 107 dX7_tell_107 hP hD hS
    · have hsp := z_f c10 hsp
      refine lv_aload_n hx hb dX7_tell_77 rfl (lv_at hl 1 rfl) ?_
      refine va_get (D := dD) (ci := 7) (v := .ref (q 21)) (C := RX7) (T := TX7) (N := 41) hx hb hts iX7 hown hK.1 hP 0 rfl rfl 21 (by decide) f62 (fun _ h9 => h9) rfl dX7_tell_78 ?_
      refine lv_iload_n hx hb dX7_tell_81 rfl (lv_at hl 2 rfl) ?_
      obtain ⟨h11, hsp⟩ := z_in hsp
      refine va_iald hx hb hK.1 hP 13 0 rfl rfl h11 dX7_tell_82 ?_
      refine lv_if_ge (tgt := 107) hx hb dX7_tell_83 (by decide) (fun c12 => ?_) (fun c12 => ?_)
      · have hsp := z_t c12 hsp
        obtain ⟨rfl, rfl⟩ := z_i2 hsp
        exact hret _ _ ls 107 dX7_tell_107 hP hD hS
      · have hsp := z_f c12 hsp
        refine lv_aload_n hx hb dX7_tell_86 rfl (lv_at hl 1 rfl) ?_
        refine va_get (D := dD) (ci := 7) (v := .ref (q 21)) (C := RX7) (T := TX7) (N := 41) hx hb hts iX7 hown hK.1 hP 0 rfl rfl 21 (by decide) f62 (fun _ h9 => h9) rfl dX7_tell_87 ?_
        refine lv_iload_n hx hb dX7_tell_90 rfl (lv_at hl 2 rfl) ?_
        refine lv_aload_n hx hb dX7_tell_91 rfl (lv_at hl 1 rfl) ?_
        refine va_get (D := dD) (ci := 7) (v := .int (g_ 6)) (C := RX7) (T := TX7) (N := 41) hx hb hts iX7 hown hK.1 hP 0 rfl rfl 6 (by decide) f131 (fun _ h9 => h9) rfl dX7_tell_92 ?_
        refine lv_iconst (v := 1) hx hb dX7_tell_95 (by decide) ?_
        refine lv_iadd hx hb dX7_tell_96 ?_
        refine lv_aload_n hx hb dX7_tell_97 rfl (lv_at hl 1 rfl) ?_
        refine lv_aload_n hx hb dX7_tell_98 rfl (lv_at hl 1 rfl) ?_
        refine va_get (D := dD) (ci := 7) (v := .int (g_ 4)) (C := RX7) (T := TX7) (N := 41) hx hb hts iX7 hown hK.1 hP 0 rfl rfl 4 (by decide) f22 (fun _ h9 => h9) rfl dX7_tell_99 ?_
        obtain ⟨v13, g14, hc15, hsp⟩ := z_b2 hsp
        refine z_callVi ⟨hx, hb, hml, hown, hts⟩ hK (c_X7_draw l dD cI cA q g_ F_ ((g_ 4)) v13 g14 hc15) (cwV 1 hts gX7_tell_X7_draw rfl rfl rfl (by decide +kernel) ⟨Nat.le_of_ble_eq_true rfl, Nat.le_of_ble_eq_true rfl⟩) (zJ.full hP hD hS hA) hS 0 7 rfl rfl rfl rfl hl.1 rfl (Nat.le_of_ble_eq_true rfl) dX7_tell_102 ⟨Nat.zero_le _, Nat.zero_le _⟩ (fun H locs hP hD hS => ?_)
        refine lv_iadd hx hb dX7_tell_105 ?_
        obtain ⟨h16, hsp⟩ := z_in hsp
        refine va_iast hx hb hK.1 hP hD hS 13 0 rfl rfl h16 dX7_tell_106 (fun H locs hP hD hS => ?_)
        obtain ⟨F17, eF17, hsp⟩ := z_lt hsp
        have hP : va_P dD vwCl (zQ cI q g14 F17) H := by rw [eF17]; exact hP
        have hD : va_D A (zQ cI q g14 F17) := by rw [eF17]; exact hD
        obtain ⟨rfl, rfl⟩ := z_i2 hsp
        exact hret _ _ ls 107 dX7_tell_107 hP hD hS
  have K_65 : ∀ (H : Heap) (locs : List Loc) (ls : Array Slot) (g_ : zF) (F_ : Nat → zF) (lo1 : Int32), va_P dD vwCl (zQ cI q g_ F_) H → va_D A (zQ cI q g_ F_) → va_S A s.heap H locs → lv_has ls 6 [(0, .ref (q 0)), (1, .int lo1)] → s_X7_tell_b65  g_ F_ lo1 = some (r_g, r_F) → W p l e rm_X7_tell s m args below meth c H locs 0 0 Q (F0 m 65 ls []) := by
    intro H locs ls g_ F_ lo1 hP hD hS hl hsp
    unfold s_X7_tell_b65 at hsp
    refine lv_iconst (v := 1) hx hb dX7_tell_65 (by decide) ?_
    refine lv_goto (tgt := 70) hx hb dX7_tell_66 (by decide) ?_
    exact K_70 _ _ ls g_ F_ (lo1) (1) hP hD hS (lv_sub hl [0, 1] rfl) hsp
  have K_69 : ∀ (H : Heap) (locs : List Loc) (ls : Array Slot) (g_ : zF) (F_ : Nat → zF) (lo1 : Int32), va_P dD vwCl (zQ cI q g_ F_) H → va_D A (zQ cI q g_ F_) → va_S A s.heap H locs → lv_has ls 6 [(0, .ref (q 0)), (1, .int lo1)] → s_X7_tell_b69  g_ F_ lo1 = some (r_g, r_F) → W p l e rm_X7_tell s m args below meth c H locs 0 0 Q (F0 m 69 ls []) := by
    intro H locs ls g_ F_ lo1 hP hD hS hl hsp
    unfold s_X7_tell_b69 at hsp
    refine lv_iconst (v := 0) hx hb dX7_tell_69 (by decide) ?_
    exact K_70 _ _ ls g_ F_ (lo1) (0) hP hD hS (lv_sub hl [0, 1] rfl) hsp
  have K_34 : ∀ (H : Heap) (locs : List Loc) (ls : Array Slot) (g_ : zF) (F_ : Nat → zF) (lo1 : Int32) (lo2 : Int32) (lo3 : Int32) (lo4 : Int32), va_P dD vwCl (zQ cI q g_ F_) H → va_D A (zQ cI q g_ F_) → va_S A s.heap H locs → lv_has ls 6 [(0, .ref (q 0)), (1, .int lo1), (2, .int lo2), (3, .int lo3), (4, .int lo4)] → s_X7_tell_b34  g_ F_ lo1 lo2 lo3 lo4 = some (r_g, r_F) → W p l e rm_X7_tell s m args below meth c H locs 0 0 Q (F0 m 34 ls []) := by
    intro H locs ls g_ F_ lo1 lo2 lo3 lo4 hP hD hS hl hsp
    unfold s_X7_tell_b34 at hsp
    refine lv_aload_n hx hb dX7_tell_34 rfl (lv_at hl 0 rfl) ?_
    refine lv_iload_n hx hb dX7_tell_35 rfl (lv_at hl 1 rfl) ?_
    obtain ⟨g5, F6, hc7, hsp⟩ := z_b2 hsp
    refine z_callVv ⟨hx, hb, hml, hown, hts⟩ hK (c_X7_stir l dD cI cA q g_ F_ (lo1) g5 F6 hc7) (cwV 1 hts gX7_tell_X7_stir rfl rfl rfl (by decide +kernel) ⟨Nat.le_of_ble_eq_true rfl, Nat.le_of_ble_eq_true rfl⟩) (zJ.full hP hD hS hA) hS 0 7 rfl rfl rfl rfl hl.1 rfl (Nat.le_of_ble_eq_true rfl) dX7_tell_36 ⟨Nat.zero_le _, Nat.zero_le _⟩ (fun H locs hP hD hS => ?_)
    refine lv_iload_n hx hb dX7_tell_39 rfl (lv_at hl 2 rfl) ?_
    refine lv_aload_n hx hb dX7_tell_40 rfl (lv_at hl 0 rfl) ?_
    refine va_get (D := dD) (ci := 7) (v := .ref (q 11)) (C := RX7) (T := TX7) (N := 41) hx hb hts iX7 hown hK.1 hP 0 rfl rfl 11 (by decide) f32 (fun _ h9 => h9) rfl dX7_tell_41 ?_
    refine lv_iload_n hx hb dX7_tell_44 rfl (lv_at hl 1 rfl) ?_
    obtain ⟨h8, hsp⟩ := z_in hsp
    refine va_iald hx hb hK.1 hP 3 0 rfl rfl h8 dX7_tell_45 ?_
    refine lv_icmp_lt (tgt := 65) hx hb dX7_tell_46 (by decide) (fun c9 => ?_) (fun c9 => ?_)
    · have hsp := z_t c9 hsp
      exact K_65 _ _ ls g5 F6 (lo1) hP hD hS (lv_sub hl [0, 1] rfl) hsp
    · have hsp := z_f c9 hsp
      refine lv_iload_n hx hb dX7_tell_49 rfl (lv_at hl 2 rfl) ?_
      refine lv_aload_n hx hb dX7_tell_50 rfl (lv_at hl 0 rfl) ?_
      refine va_get (D := dD) (ci := 7) (v := .ref (q 11)) (C := RX7) (T := TX7) (N := 41) hx hb hts iX7 hown hK.1 hP 0 rfl rfl 11 (by decide) f32 (fun _ h9 => h9) rfl dX7_tell_51 ?_
      refine lv_iload_n hx hb dX7_tell_54 rfl (lv_at hl 1 rfl) ?_
      obtain ⟨h18, hsp⟩ := z_in hsp
      refine va_iald hx hb hK.1 hP 3 0 rfl rfl h18 dX7_tell_55 ?_
      refine lv_icmp_ne (tgt := 69) hx hb dX7_tell_56 (by decide) (fun c19 => ?_) (fun c19 => ?_)
      · have hsp := z_f c19 hsp
        exact K_69 _ _ ls g5 F6 (lo1) hP hD hS (lv_sub hl [0, 1] rfl) hsp
      · have hsp := z_t c19 hsp
        refine lv_iload_n hx hb dX7_tell_59 rfl (lv_at hl 3 rfl) ?_
        refine lv_iload hx hb dX7_tell_60 (lv_at hl 4 rfl) ?_
        refine lv_icmp_ge (tgt := 69) hx hb dX7_tell_62 (by decide) (fun c20 => ?_) (fun c20 => ?_)
        · have hsp := z_t c20 hsp
          exact K_69 _ _ ls g5 F6 (lo1) hP hD hS (lv_sub hl [0, 1] rfl) hsp
        · have hsp := z_f c20 hsp
          exact K_65 _ _ ls g5 F6 (lo1) hP hD hS (lv_sub hl [0, 1] rfl) hsp
  unfold s_X7_tell at hsp
  refine lv_aload_n hx hb dX7_tell_0 rfl (lv_at hl 0 rfl) ?_
  refine lv_iload_n hx hb dX7_tell_1 rfl (lv_at hl 1 rfl) ?_
  obtain ⟨v1, hc2, hsp⟩ := z_b1 hsp
  refine z_callVi ⟨hx, hb, hml, hown, hts⟩ hK (c_X7_rank l dD cI cA q g F (p1) v1 hc2) (cwV 1 hts gX7_tell_X7_rank rfl rfl rfl (by decide +kernel) ⟨Nat.le_of_ble_eq_true rfl, Nat.le_of_ble_eq_true rfl⟩) (zJ.full hP hD hS hA) hS 0 7 rfl rfl rfl rfl hl.1 rfl (Nat.le_of_ble_eq_true rfl) dX7_tell_2 ⟨Nat.zero_le _, Nat.zero_le _⟩ (fun H locs hP hD hS => ?_)
  refine lv_istore (lv' := [(4, .int v1), (0, .ref (q 0)), (1, .int p1), (2, .int p2), (3, .int p3)]) hx hb dX7_tell_5 hl (by decide) rfl (fun ls hl => ?_)
  refine lv_iload_n hx hb dX7_tell_7 rfl (lv_at hl 3 rfl) ?_
  refine lv_aload_n hx hb dX7_tell_8 rfl (lv_at hl 1 rfl) ?_
  refine va_get (D := dD) (ci := 7) (v := .ref (q 11)) (C := RX7) (T := TX7) (N := 41) hx hb hts iX7 hown hK.1 hP 0 rfl rfl 11 (by decide) f32 (fun _ h9 => h9) rfl dX7_tell_9 ?_
  refine lv_iload_n hx hb dX7_tell_12 rfl (lv_at hl 2 rfl) ?_
  obtain ⟨h3, hsp⟩ := z_in hsp
  refine va_iald hx hb hK.1 hP 3 0 rfl rfl h3 dX7_tell_13 ?_
  refine lv_icmp_ne (tgt := 34) hx hb dX7_tell_14 (by decide) (fun c4 => ?_) (fun c4 => ?_)
  · have hsp := z_f c4 hsp
    exact K_34 _ _ ls g F (p1) (p2) (p3) (v1) hP hD hS (lv_sub hl [1, 2, 3, 4, 0] rfl) hsp
  · have hsp := z_t c4 hsp
    refine lv_iload_n hx hb dX7_tell_17 rfl (lv_at hl 4 rfl) ?_
    refine lv_iload hx hb dX7_tell_18 (lv_at hl 0 rfl) ?_
    refine lv_icmp_ne (tgt := 34) hx hb dX7_tell_20 (by decide) (fun c21 => ?_) (fun c21 => ?_)
    · have hsp := z_f c21 hsp
      exact K_34 _ _ ls g F (p1) (p2) (p3) (v1) hP hD hS (lv_sub hl [1, 2, 3, 4, 0] rfl) hsp
    · have hsp := z_t c21 hsp
      refine lv_aload_n hx hb dX7_tell_23 rfl (lv_at hl 1 rfl) ?_
      refine va_get (D := dD) (ci := 7) (v := .ref (q 20)) (C := RX7) (T := TX7) (N := 41) hx hb hts iX7 hown hK.1 hP 0 rfl rfl 20 (by decide) f59 (fun _ h9 => h9) rfl dX7_tell_24 ?_
      refine lv_iload_n hx hb dX7_tell_27 rfl (lv_at hl 2 rfl) ?_
      refine lv_dup2_11 hx hb dX7_tell_28 rfl rfl ?_
      obtain ⟨h22, hsp⟩ := z_in hsp
      refine va_iald hx hb hK.1 hP 12 0 rfl rfl h22 dX7_tell_29 ?_
      refine lv_iconst (v := 1) hx hb dX7_tell_30 (by decide) ?_
      refine lv_iadd hx hb dX7_tell_31 ?_
      obtain ⟨h23, hsp⟩ := z_in hsp
      refine va_iast hx hb hK.1 hP hD hS 12 0 rfl rfl h23 dX7_tell_32 (fun H locs hP hD hS => ?_)
      obtain ⟨F24, eF24, hsp⟩ := z_lt hsp
      have hP : va_P dD vwCl (zQ cI q g F24) H := by rw [eF24]; exact hP
      have hD : va_D A (zQ cI q g F24) := by rw [eF24]; exact hD
      obtain ⟨rfl, rfl⟩ := z_i2 hsp
      exact hret _ _ ls 33 dX7_tell_33 hP hD hS
def s_X7_mix_b56  (g_ : zF) (F_ : Nat → zF) (lo1 : Int32) (lo2 : Int32) : Option ((zF) × (Nat → zF)) := if lo2 < 0 ∨ 12 ≤ (lo2).toNatClampNeg then none else if lo1 < 0 ∨ 12 ≤ (lo1).toNatClampNeg then none else (if ((F_ 32) (lo2).toNatClampNeg) = ((F_ 11) (lo1).toNatClampNeg) then if lo2 < 0 ∨ 12 ≤ (lo2).toNatClampNeg then none else if lo1 < 0 ∨ 12 ≤ (lo1).toNatClampNeg then none else (if ((F_ 33) (lo2).toNatClampNeg) = ((F_ 12) (lo1).toNatClampNeg) then if lo2 < 0 ∨ 12 ≤ (lo2).toNatClampNeg then none else if lo1 < 0 ∨ 12 ≤ (lo1).toNatClampNeg then none else (if ((F_ 34) (lo2).toNatClampNeg) = ((F_ 13) (lo1).toNatClampNeg) then if lo2 < 0 ∨ 12 ≤ (lo2).toNatClampNeg then none else if lo2 < 0 ∨ 12 ≤ (lo2).toNatClampNeg then none else zb2 (s_X7_own g_ F_ (lo1) (((F_ 36) (lo2).toNatClampNeg)) (((F_ 37) (lo2).toNatClampNeg))) fun (g24 : zF) (F25 : Nat → zF) => some (g24, F25) else zb2 (s_X7_stir g_ F_ (lo1)) fun (g19 : zF) (F20 : Nat → zF) => some (g19, F20)) else zb2 (s_X7_stir g_ F_ (lo1)) fun (g13 : zF) (F14 : Nat → zF) => some (g13, F14)) else zb2 (s_X7_stir g_ F_ (lo1)) fun (g7 : zF) (F8 : Nat → zF) => some (g7, F8))
def s_X7_mix (g : zF) (F : Nat → zF) (p1 : Int32) (p2 : Int32) : Option ((zF) × (Nat → zF)) := if p2 < 0 ∨ 12 ≤ (p2).toNatClampNeg then none else if p1 < 0 ∨ 12 ≤ (p1).toNatClampNeg then none else (if ((F 32) (p2).toNatClampNeg) ≤ ((F 11) (p1).toNatClampNeg) then (s_X7_mix_b56  g F (p1) (p2)) else if p2 < 0 ∨ 12 ≤ (p2).toNatClampNeg then none else if p1 < 0 ∨ 12 ≤ (p1).toNatClampNeg then none else zl (zu F 11 (p1).toNatClampNeg (((F 32) (p2).toNatClampNeg))) fun (F29 : Nat → zF) => if p2 < 0 ∨ 12 ≤ (p2).toNatClampNeg then none else if p1 < 0 ∨ 12 ≤ (p1).toNatClampNeg then none else zl (zu F29 12 (p1).toNatClampNeg (((F29 33) (p2).toNatClampNeg))) fun (F32 : Nat → zF) => if p2 < 0 ∨ 12 ≤ (p2).toNatClampNeg then none else if p1 < 0 ∨ 12 ≤ (p1).toNatClampNeg then none else zl (zu F32 13 (p1).toNatClampNeg (((F32 34) (p2).toNatClampNeg))) fun (F35 : Nat → zF) => zb1 (s_X7_empty g F35 (p1)) fun (F36 : Nat → zF) => (s_X7_mix_b56  g F36 (p1) (p2)))
abbrev rm_X7_mix : Room := { frames := 4, cells := 0, slots := 0, locals := 87 }
set_option maxHeartbeats 4000000 in
set_option maxRecDepth 100000 in
theorem c_X7_mix (l : Launch) (dD : va_G) (cI cA : ClassId) (q : Nat → Nat) (g : zF) (F : Nat → zF) (p1 : Int32) (p2 : Int32) (r_g : zF) (r_F : Nat → zF) (hsp : s_X7_mix g F p1 p2 = some (r_g, r_F)) : zMv l yX7_mix wsX7_mix rm_X7_mix dD cI cA [.ref (q 0), .int p1, .int p2] (zQ cI q g F) (zQ cI q r_g r_F) := by
  refine zMv_of (cc := cX7_mix) (maxL := 3) (by decide) rfl (Nat.le_of_ble_eq_true rfl) ?_
  intro p e s m args below meth c A Q ls hx hb hml hown hts hK hA hP hD hl hret
  have hown : s.vm.findClass RX7 = some m.cls := hown
  have iX7 : ∀ w ∈ wsX70, w ∈ wsX7_mix := by decide +kernel
  have f92 := hts (.fieldLink RX7 92 "MeshFieldModel" "letterNumber" "[I") (by decide +kernel)
  have f32 := hts (.fieldLink RX7 32 "MeshFieldModel" "number" "[I") (by decide +kernel)
  have f95 := hts (.fieldLink RX7 95 "MeshFieldModel" "letterMany" "[I") (by decide +kernel)
  have f35 := hts (.fieldLink RX7 35 "MeshFieldModel" "many" "[I") (by decide +kernel)
  have f98 := hts (.fieldLink RX7 98 "MeshFieldModel" "letterSum" "[I") (by decide +kernel)
  have f38 := hts (.fieldLink RX7 38 "MeshFieldModel" "sum" "[I") (by decide +kernel)
  have f104 := hts (.fieldLink RX7 104 "MeshFieldModel" "letterMask" "[I") (by decide +kernel)
  have f107 := hts (.fieldLink RX7 107 "MeshFieldModel" "letterData" "[I") (by decide +kernel)
  have hS : va_S A s.heap s.heap [] := va_S.rf
  have hl : lv_has ls 3 [(0, .ref (q 0)), (1, .int p1), (2, .int p2)] := hl
  have K_56 : ∀ (H : Heap) (locs : List Loc) (ls : Array Slot) (g_ : zF) (F_ : Nat → zF) (lo1 : Int32) (lo2 : Int32), va_P dD vwCl (zQ cI q g_ F_) H → va_D A (zQ cI q g_ F_) → va_S A s.heap H locs → lv_has ls 3 [(0, .ref (q 0)), (1, .int lo1), (2, .int lo2)] → s_X7_mix_b56  g_ F_ lo1 lo2 = some (r_g, r_F) → W p l e rm_X7_mix s m args below meth c H locs 0 0 Q (F0 m 56 ls []) := by
    intro H locs ls g_ F_ lo1 lo2 hP hD hS hl hsp
    unfold s_X7_mix_b56 at hsp
    refine lv_aload_n hx hb dX7_mix_56 rfl (lv_at hl 0 rfl) ?_
    refine va_get (D := dD) (ci := 7) (v := .ref (q 32)) (C := RX7) (T := TX7) (N := 41) hx hb hts iX7 hown hK.1 hP 0 rfl rfl 32 (by decide) f92 (fun _ h9 => h9) rfl dX7_mix_57 ?_
    refine lv_iload_n hx hb dX7_mix_60 rfl (lv_at hl 2 rfl) ?_
    obtain ⟨h4, hsp⟩ := z_in hsp
    refine va_iald hx hb hK.1 hP 22 0 rfl rfl h4 dX7_mix_61 ?_
    refine lv_aload_n hx hb dX7_mix_62 rfl (lv_at hl 0 rfl) ?_
    refine va_get (D := dD) (ci := 7) (v := .ref (q 11)) (C := RX7) (T := TX7) (N := 41) hx hb hts iX7 hown hK.1 hP 0 rfl rfl 11 (by decide) f32 (fun _ h9 => h9) rfl dX7_mix_63 ?_
    refine lv_iload_n hx hb dX7_mix_66 rfl (lv_at hl 1 rfl) ?_
    obtain ⟨h5, hsp⟩ := z_in hsp
    refine va_iald hx hb hK.1 hP 3 0 rfl rfl h5 dX7_mix_67 ?_
    refine lv_icmp_ne (tgt := 121) hx hb dX7_mix_68 (by decide) (fun c6 => ?_) (fun c6 => ?_)
    · have hsp := z_f c6 hsp
      refine lv_aload_n hx hb dX7_mix_121 rfl (lv_at hl 0 rfl) ?_
      refine lv_iload_n hx hb dX7_mix_122 rfl (lv_at hl 1 rfl) ?_
      obtain ⟨g7, F8, hc9, hsp⟩ := z_b2 hsp
      refine z_callVv ⟨hx, hb, hml, hown, hts⟩ hK (c_X7_stir l dD cI cA q g_ F_ (lo1) g7 F8 hc9) (cwV 1 hts gX7_mix_X7_stir rfl rfl rfl (by decide +kernel) ⟨Nat.le_of_ble_eq_true rfl, Nat.le_of_ble_eq_true rfl⟩) (zJ.full hP hD hS hA) hS 0 7 rfl rfl rfl rfl hl.1 rfl (Nat.le_of_ble_eq_true rfl) dX7_mix_123 ⟨Nat.zero_le _, Nat.zero_le _⟩ (fun H locs hP hD hS => ?_)
      obtain ⟨rfl, rfl⟩ := z_i2 hsp
      exact hret _ _ ls 126 dX7_mix_126 hP hD hS
    · have hsp := z_t c6 hsp
      refine lv_aload_n hx hb dX7_mix_71 rfl (lv_at hl 0 rfl) ?_
      refine va_get (D := dD) (ci := 7) (v := .ref (q 33)) (C := RX7) (T := TX7) (N := 41) hx hb hts iX7 hown hK.1 hP 0 rfl rfl 33 (by decide) f95 (fun _ h9 => h9) rfl dX7_mix_72 ?_
      refine lv_iload_n hx hb dX7_mix_75 rfl (lv_at hl 2 rfl) ?_
      obtain ⟨h10, hsp⟩ := z_in hsp
      refine va_iald hx hb hK.1 hP 23 0 rfl rfl h10 dX7_mix_76 ?_
      refine lv_aload_n hx hb dX7_mix_77 rfl (lv_at hl 0 rfl) ?_
      refine va_get (D := dD) (ci := 7) (v := .ref (q 12)) (C := RX7) (T := TX7) (N := 41) hx hb hts iX7 hown hK.1 hP 0 rfl rfl 12 (by decide) f35 (fun _ h9 => h9) rfl dX7_mix_78 ?_
      refine lv_iload_n hx hb dX7_mix_81 rfl (lv_at hl 1 rfl) ?_
      obtain ⟨h11, hsp⟩ := z_in hsp
      refine va_iald hx hb hK.1 hP 4 0 rfl rfl h11 dX7_mix_82 ?_
      refine lv_icmp_ne (tgt := 121) hx hb dX7_mix_83 (by decide) (fun c12 => ?_) (fun c12 => ?_)
      · have hsp := z_f c12 hsp
        refine lv_aload_n hx hb dX7_mix_121 rfl (lv_at hl 0 rfl) ?_
        refine lv_iload_n hx hb dX7_mix_122 rfl (lv_at hl 1 rfl) ?_
        obtain ⟨g13, F14, hc15, hsp⟩ := z_b2 hsp
        refine z_callVv ⟨hx, hb, hml, hown, hts⟩ hK (c_X7_stir l dD cI cA q g_ F_ (lo1) g13 F14 hc15) (cwV 1 hts gX7_mix_X7_stir rfl rfl rfl (by decide +kernel) ⟨Nat.le_of_ble_eq_true rfl, Nat.le_of_ble_eq_true rfl⟩) (zJ.full hP hD hS hA) hS 0 7 rfl rfl rfl rfl hl.1 rfl (Nat.le_of_ble_eq_true rfl) dX7_mix_123 ⟨Nat.zero_le _, Nat.zero_le _⟩ (fun H locs hP hD hS => ?_)
        obtain ⟨rfl, rfl⟩ := z_i2 hsp
        exact hret _ _ ls 126 dX7_mix_126 hP hD hS
      · have hsp := z_t c12 hsp
        refine lv_aload_n hx hb dX7_mix_86 rfl (lv_at hl 0 rfl) ?_
        refine va_get (D := dD) (ci := 7) (v := .ref (q 34)) (C := RX7) (T := TX7) (N := 41) hx hb hts iX7 hown hK.1 hP 0 rfl rfl 34 (by decide) f98 (fun _ h9 => h9) rfl dX7_mix_87 ?_
        refine lv_iload_n hx hb dX7_mix_90 rfl (lv_at hl 2 rfl) ?_
        obtain ⟨h16, hsp⟩ := z_in hsp
        refine va_iald hx hb hK.1 hP 24 0 rfl rfl h16 dX7_mix_91 ?_
        refine lv_aload_n hx hb dX7_mix_92 rfl (lv_at hl 0 rfl) ?_
        refine va_get (D := dD) (ci := 7) (v := .ref (q 13)) (C := RX7) (T := TX7) (N := 41) hx hb hts iX7 hown hK.1 hP 0 rfl rfl 13 (by decide) f38 (fun _ h9 => h9) rfl dX7_mix_93 ?_
        refine lv_iload_n hx hb dX7_mix_96 rfl (lv_at hl 1 rfl) ?_
        obtain ⟨h17, hsp⟩ := z_in hsp
        refine va_iald hx hb hK.1 hP 5 0 rfl rfl h17 dX7_mix_97 ?_
        refine lv_icmp_ne (tgt := 121) hx hb dX7_mix_98 (by decide) (fun c18 => ?_) (fun c18 => ?_)
        · have hsp := z_f c18 hsp
          refine lv_aload_n hx hb dX7_mix_121 rfl (lv_at hl 0 rfl) ?_
          refine lv_iload_n hx hb dX7_mix_122 rfl (lv_at hl 1 rfl) ?_
          obtain ⟨g19, F20, hc21, hsp⟩ := z_b2 hsp
          refine z_callVv ⟨hx, hb, hml, hown, hts⟩ hK (c_X7_stir l dD cI cA q g_ F_ (lo1) g19 F20 hc21) (cwV 1 hts gX7_mix_X7_stir rfl rfl rfl (by decide +kernel) ⟨Nat.le_of_ble_eq_true rfl, Nat.le_of_ble_eq_true rfl⟩) (zJ.full hP hD hS hA) hS 0 7 rfl rfl rfl rfl hl.1 rfl (Nat.le_of_ble_eq_true rfl) dX7_mix_123 ⟨Nat.zero_le _, Nat.zero_le _⟩ (fun H locs hP hD hS => ?_)
          obtain ⟨rfl, rfl⟩ := z_i2 hsp
          exact hret _ _ ls 126 dX7_mix_126 hP hD hS
        · have hsp := z_t c18 hsp
          refine lv_aload_n hx hb dX7_mix_101 rfl (lv_at hl 0 rfl) ?_
          refine lv_iload_n hx hb dX7_mix_102 rfl (lv_at hl 1 rfl) ?_
          refine lv_aload_n hx hb dX7_mix_103 rfl (lv_at hl 0 rfl) ?_
          refine va_get (D := dD) (ci := 7) (v := .ref (q 36)) (C := RX7) (T := TX7) (N := 41) hx hb hts iX7 hown hK.1 hP 0 rfl rfl 36 (by decide) f104 (fun _ h9 => h9) rfl dX7_mix_104 ?_
          refine lv_iload_n hx hb dX7_mix_107 rfl (lv_at hl 2 rfl) ?_
          obtain ⟨h22, hsp⟩ := z_in hsp
          refine va_iald hx hb hK.1 hP 26 0 rfl rfl h22 dX7_mix_108 ?_
          refine lv_aload_n hx hb dX7_mix_109 rfl (lv_at hl 0 rfl) ?_
          refine va_get (D := dD) (ci := 7) (v := .ref (q 37)) (C := RX7) (T := TX7) (N := 41) hx hb hts iX7 hown hK.1 hP 0 rfl rfl 37 (by decide) f107 (fun _ h9 => h9) rfl dX7_mix_110 ?_
          refine lv_iload_n hx hb dX7_mix_113 rfl (lv_at hl 2 rfl) ?_
          obtain ⟨h23, hsp⟩ := z_in hsp
          refine va_iald hx hb hK.1 hP 27 0 rfl rfl h23 dX7_mix_114 ?_
          obtain ⟨g24, F25, hc26, hsp⟩ := z_b2 hsp
          refine z_callVv ⟨hx, hb, hml, hown, hts⟩ hK (c_X7_own l dD cI cA q g_ F_ (lo1) (((F_ 36) (lo2).toNatClampNeg)) (((F_ 37) (lo2).toNatClampNeg)) g24 F25 hc26) (cwV 3 hts gX7_mix_X7_own rfl rfl rfl (by decide +kernel) ⟨Nat.le_of_ble_eq_true rfl, Nat.le_of_ble_eq_true rfl⟩) (zJ.full hP hD hS hA) hS 0 7 rfl rfl rfl rfl hl.1 rfl (Nat.le_of_ble_eq_true rfl) dX7_mix_115 ⟨Nat.zero_le _, Nat.zero_le _⟩ (fun H locs hP hD hS => ?_)
          refine lv_goto (tgt := 126) hx hb dX7_mix_118 (by decide) ?_
          obtain ⟨rfl, rfl⟩ := z_i2 hsp
          exact hret _ _ ls 126 dX7_mix_126 hP hD hS
  unfold s_X7_mix at hsp
  refine lv_aload_n hx hb dX7_mix_0 rfl (lv_at hl 0 rfl) ?_
  refine va_get (D := dD) (ci := 7) (v := .ref (q 32)) (C := RX7) (T := TX7) (N := 41) hx hb hts iX7 hown hK.1 hP 0 rfl rfl 32 (by decide) f92 (fun _ h9 => h9) rfl dX7_mix_1 ?_
  refine lv_iload_n hx hb dX7_mix_4 rfl (lv_at hl 2 rfl) ?_
  obtain ⟨h1, hsp⟩ := z_in hsp
  refine va_iald hx hb hK.1 hP 22 0 rfl rfl h1 dX7_mix_5 ?_
  refine lv_aload_n hx hb dX7_mix_6 rfl (lv_at hl 0 rfl) ?_
  refine va_get (D := dD) (ci := 7) (v := .ref (q 11)) (C := RX7) (T := TX7) (N := 41) hx hb hts iX7 hown hK.1 hP 0 rfl rfl 11 (by decide) f32 (fun _ h9 => h9) rfl dX7_mix_7 ?_
  refine lv_iload_n hx hb dX7_mix_10 rfl (lv_at hl 1 rfl) ?_
  obtain ⟨h2, hsp⟩ := z_in hsp
  refine va_iald hx hb hK.1 hP 3 0 rfl rfl h2 dX7_mix_11 ?_
  refine lv_icmp_le (tgt := 56) hx hb dX7_mix_12 (by decide) (fun c3 => ?_) (fun c3 => ?_)
  · have hsp := z_t c3 hsp
    exact K_56 _ _ ls g F (p1) (p2) hP hD hS (lv_sub hl [0, 1, 2] rfl) hsp
  · have hsp := z_f c3 hsp
    refine lv_aload_n hx hb dX7_mix_15 rfl (lv_at hl 0 rfl) ?_
    refine va_get (D := dD) (ci := 7) (v := .ref (q 11)) (C := RX7) (T := TX7) (N := 41) hx hb hts iX7 hown hK.1 hP 0 rfl rfl 11 (by decide) f32 (fun _ h9 => h9) rfl dX7_mix_16 ?_
    refine lv_iload_n hx hb dX7_mix_19 rfl (lv_at hl 1 rfl) ?_
    refine lv_aload_n hx hb dX7_mix_20 rfl (lv_at hl 0 rfl) ?_
    refine va_get (D := dD) (ci := 7) (v := .ref (q 32)) (C := RX7) (T := TX7) (N := 41) hx hb hts iX7 hown hK.1 hP 0 rfl rfl 32 (by decide) f92 (fun _ h9 => h9) rfl dX7_mix_21 ?_
    refine lv_iload_n hx hb dX7_mix_24 rfl (lv_at hl 2 rfl) ?_
    obtain ⟨h27, hsp⟩ := z_in hsp
    refine va_iald hx hb hK.1 hP 22 0 rfl rfl h27 dX7_mix_25 ?_
    obtain ⟨h28, hsp⟩ := z_in hsp
    refine va_iast hx hb hK.1 hP hD hS 3 0 rfl rfl h28 dX7_mix_26 (fun H locs hP hD hS => ?_)
    obtain ⟨F29, eF29, hsp⟩ := z_lt hsp
    have hP : va_P dD vwCl (zQ cI q g F29) H := by rw [eF29]; exact hP
    have hD : va_D A (zQ cI q g F29) := by rw [eF29]; exact hD
    refine lv_aload_n hx hb dX7_mix_27 rfl (lv_at hl 0 rfl) ?_
    refine va_get (D := dD) (ci := 7) (v := .ref (q 12)) (C := RX7) (T := TX7) (N := 41) hx hb hts iX7 hown hK.1 hP 0 rfl rfl 12 (by decide) f35 (fun _ h9 => h9) rfl dX7_mix_28 ?_
    refine lv_iload_n hx hb dX7_mix_31 rfl (lv_at hl 1 rfl) ?_
    refine lv_aload_n hx hb dX7_mix_32 rfl (lv_at hl 0 rfl) ?_
    refine va_get (D := dD) (ci := 7) (v := .ref (q 33)) (C := RX7) (T := TX7) (N := 41) hx hb hts iX7 hown hK.1 hP 0 rfl rfl 33 (by decide) f95 (fun _ h9 => h9) rfl dX7_mix_33 ?_
    refine lv_iload_n hx hb dX7_mix_36 rfl (lv_at hl 2 rfl) ?_
    obtain ⟨h30, hsp⟩ := z_in hsp
    refine va_iald hx hb hK.1 hP 23 0 rfl rfl h30 dX7_mix_37 ?_
    obtain ⟨h31, hsp⟩ := z_in hsp
    refine va_iast hx hb hK.1 hP hD hS 4 0 rfl rfl h31 dX7_mix_38 (fun H locs hP hD hS => ?_)
    obtain ⟨F32, eF32, hsp⟩ := z_lt hsp
    have hP : va_P dD vwCl (zQ cI q g F32) H := by rw [eF32]; exact hP
    have hD : va_D A (zQ cI q g F32) := by rw [eF32]; exact hD
    refine lv_aload_n hx hb dX7_mix_39 rfl (lv_at hl 0 rfl) ?_
    refine va_get (D := dD) (ci := 7) (v := .ref (q 13)) (C := RX7) (T := TX7) (N := 41) hx hb hts iX7 hown hK.1 hP 0 rfl rfl 13 (by decide) f38 (fun _ h9 => h9) rfl dX7_mix_40 ?_
    refine lv_iload_n hx hb dX7_mix_43 rfl (lv_at hl 1 rfl) ?_
    refine lv_aload_n hx hb dX7_mix_44 rfl (lv_at hl 0 rfl) ?_
    refine va_get (D := dD) (ci := 7) (v := .ref (q 34)) (C := RX7) (T := TX7) (N := 41) hx hb hts iX7 hown hK.1 hP 0 rfl rfl 34 (by decide) f98 (fun _ h9 => h9) rfl dX7_mix_45 ?_
    refine lv_iload_n hx hb dX7_mix_48 rfl (lv_at hl 2 rfl) ?_
    obtain ⟨h33, hsp⟩ := z_in hsp
    refine va_iald hx hb hK.1 hP 24 0 rfl rfl h33 dX7_mix_49 ?_
    obtain ⟨h34, hsp⟩ := z_in hsp
    refine va_iast hx hb hK.1 hP hD hS 5 0 rfl rfl h34 dX7_mix_50 (fun H locs hP hD hS => ?_)
    obtain ⟨F35, eF35, hsp⟩ := z_lt hsp
    have hP : va_P dD vwCl (zQ cI q g F35) H := by rw [eF35]; exact hP
    have hD : va_D A (zQ cI q g F35) := by rw [eF35]; exact hD
    refine lv_aload_n hx hb dX7_mix_51 rfl (lv_at hl 0 rfl) ?_
    refine lv_iload_n hx hb dX7_mix_52 rfl (lv_at hl 1 rfl) ?_
    obtain ⟨F36, hc37, hsp⟩ := z_b1 hsp
    refine z_callVv ⟨hx, hb, hml, hown, hts⟩ hK (c_X7_empty l dD cI cA q g F35 (p1) F36 hc37) (cwV 1 hts gX7_mix_X7_empty rfl rfl rfl (by decide +kernel) ⟨Nat.le_of_ble_eq_true rfl, Nat.le_of_ble_eq_true rfl⟩) (zJ.full hP hD hS hA) hS 0 7 rfl rfl rfl rfl hl.1 rfl (Nat.le_of_ble_eq_true rfl) dX7_mix_53 ⟨Nat.zero_le _, Nat.zero_le _⟩ (fun H locs hP hD hS => ?_)
    exact K_56 _ _ ls g F36 (p1) (p2) hP hD hS (lv_sub hl [0, 1, 2] rfl) hsp
def s_X7_work_b48  (g_ : zF) (F_ : Nat → zF) (lo1 : Int32) (lo2 : Int32) : Option ((zF) × (Nat → zF)) := if lo2 < 0 ∨ 12 ≤ (lo2).toNatClampNeg then none else if lo1 < 0 ∨ 12 ≤ (lo1).toNatClampNeg then none else (if ((F_ 38) (lo2).toNatClampNeg) ≤ ((F_ 27) (lo1).toNatClampNeg) then some (g_, F_) else if lo2 < 0 ∨ 12 ≤ (lo2).toNatClampNeg then none else if lo1 < 0 ∨ 12 ≤ (lo1).toNatClampNeg then none else zl (zu F_ 27 (lo1).toNatClampNeg (((F_ 38) (lo2).toNatClampNeg))) fun (F14 : Nat → zF) => if lo2 < 0 ∨ 12 ≤ (lo2).toNatClampNeg then none else if lo1 < 0 ∨ 12 ≤ (lo1).toNatClampNeg then none else zl (zu F14 28 (lo1).toNatClampNeg (((F14 39) (lo2).toNatClampNeg))) fun (F17 : Nat → zF) => some (g_, F17))
def s_X7_work (g : zF) (F : Nat → zF) (p1 : Int32) : Option ((zF) × (Nat → zF)) := if p1 < 0 ∨ 12 ≤ (p1).toNatClampNeg then none else zl (((F 40) (p1).toNatClampNeg)) fun (x2 : Int32) => (if 0 ≤ x2 then if x2 < 0 ∨ 12 ≤ (x2).toNatClampNeg then none else (if ((F 31) (x2).toNatClampNeg) = 1 then if x2 < 0 ∨ 12 ≤ (x2).toNatClampNeg then none else if x2 < 0 ∨ 12 ≤ (x2).toNatClampNeg then none else zb2 (s_X7_tell g F (p1) (((F 32) (x2).toNatClampNeg)) (((F 35) (x2).toNatClampNeg))) fun (g20 : zF) (F21 : Nat → zF) => (s_X7_work_b48  g20 F21 (p1) (x2)) else zb2 (s_X7_mix g F (p1) (x2)) fun (g6 : zF) (F7 : Nat → zF) => (s_X7_work_b48  g6 F7 (p1) (x2))) else some (g, F))
abbrev rm_X7_work : Room := { frames := 5, cells := 0, slots := 0, locals := 109 }
set_option maxHeartbeats 4000000 in
set_option maxRecDepth 100000 in
theorem c_X7_work (l : Launch) (dD : va_G) (cI cA : ClassId) (q : Nat → Nat) (g : zF) (F : Nat → zF) (p1 : Int32) (r_g : zF) (r_F : Nat → zF) (hsp : s_X7_work g F p1 = some (r_g, r_F)) : zMv l yX7_work wsX7_work rm_X7_work dD cI cA [.ref (q 0), .int p1] (zQ cI q g F) (zQ cI q r_g r_F) := by
  refine zMv_of (cc := cX7_work) (maxL := 3) (by decide) rfl (Nat.le_of_ble_eq_true rfl) ?_
  intro p e s m args below meth c A Q ls hx hb hml hown hts hK hA hP hD hl hret
  have hown : s.vm.findClass RX7 = some m.cls := hown
  have iX7 : ∀ w ∈ wsX70, w ∈ wsX7_work := by decide +kernel
  have f116 := hts (.fieldLink RX7 116 "MeshFieldModel" "from" "[I") (by decide +kernel)
  have f89 := hts (.fieldLink RX7 89 "MeshFieldModel" "sends" "[I") (by decide +kernel)
  have f110 := hts (.fieldLink RX7 110 "MeshFieldModel" "letterTurn" "[I") (by decide +kernel)
  have f80 := hts (.fieldLink RX7 80 "MeshFieldModel" "turnNumber" "[I") (by decide +kernel)
  have f83 := hts (.fieldLink RX7 83 "MeshFieldModel" "turnTick" "[I") (by decide +kernel)
  have f113 := hts (.fieldLink RX7 113 "MeshFieldModel" "letterTick" "[I") (by decide +kernel)
  have f92 := hts (.fieldLink RX7 92 "MeshFieldModel" "letterNumber" "[I") (by decide +kernel)
  have f101 := hts (.fieldLink RX7 101 "MeshFieldModel" "letterRank" "[I") (by decide +kernel)
  have hS : va_S A s.heap s.heap [] := va_S.rf
  have hl : lv_has ls 3 [(0, .ref (q 0)), (1, .int p1)] := hl
  have K_48 : ∀ (H : Heap) (locs : List Loc) (ls : Array Slot) (g_ : zF) (F_ : Nat → zF) (lo1 : Int32) (lo2 : Int32), va_P dD vwCl (zQ cI q g_ F_) H → va_D A (zQ cI q g_ F_) → va_S A s.heap H locs → lv_has ls 3 [(0, .ref (q 0)), (1, .int lo1), (2, .int lo2)] → s_X7_work_b48  g_ F_ lo1 lo2 = some (r_g, r_F) → W p l e rm_X7_work s m args below meth c H locs 0 0 Q (F0 m 48 ls []) := by
    intro H locs ls g_ F_ lo1 lo2 hP hD hS hl hsp
    unfold s_X7_work_b48 at hsp
    refine lv_aload_n hx hb dX7_work_48 rfl (lv_at hl 0 rfl) ?_
    refine va_get (D := dD) (ci := 7) (v := .ref (q 38)) (C := RX7) (T := TX7) (N := 41) hx hb hts iX7 hown hK.1 hP 0 rfl rfl 38 (by decide) f110 (fun _ h9 => h9) rfl dX7_work_49 ?_
    refine lv_iload_n hx hb dX7_work_52 rfl (lv_at hl 2 rfl) ?_
    obtain ⟨h9, hsp⟩ := z_in hsp
    refine va_iald hx hb hK.1 hP 28 0 rfl rfl h9 dX7_work_53 ?_
    refine lv_aload_n hx hb dX7_work_54 rfl (lv_at hl 0 rfl) ?_
    refine va_get (D := dD) (ci := 7) (v := .ref (q 27)) (C := RX7) (T := TX7) (N := 41) hx hb hts iX7 hown hK.1 hP 0 rfl rfl 27 (by decide) f80 (fun _ h9 => h9) rfl dX7_work_55 ?_
    refine lv_iload_n hx hb dX7_work_58 rfl (lv_at hl 1 rfl) ?_
    obtain ⟨h10, hsp⟩ := z_in hsp
    refine va_iald hx hb hK.1 hP 19 0 rfl rfl h10 dX7_work_59 ?_
    refine lv_icmp_le (tgt := 87) hx hb dX7_work_60 (by decide) (fun c11 => ?_) (fun c11 => ?_)
    · have hsp := z_t c11 hsp
      obtain ⟨rfl, rfl⟩ := z_i2 hsp
      exact hret _ _ ls 87 dX7_work_87 hP hD hS
    · have hsp := z_f c11 hsp
      refine lv_aload_n hx hb dX7_work_63 rfl (lv_at hl 0 rfl) ?_
      refine va_get (D := dD) (ci := 7) (v := .ref (q 27)) (C := RX7) (T := TX7) (N := 41) hx hb hts iX7 hown hK.1 hP 0 rfl rfl 27 (by decide) f80 (fun _ h9 => h9) rfl dX7_work_64 ?_
      refine lv_iload_n hx hb dX7_work_67 rfl (lv_at hl 1 rfl) ?_
      refine lv_aload_n hx hb dX7_work_68 rfl (lv_at hl 0 rfl) ?_
      refine va_get (D := dD) (ci := 7) (v := .ref (q 38)) (C := RX7) (T := TX7) (N := 41) hx hb hts iX7 hown hK.1 hP 0 rfl rfl 38 (by decide) f110 (fun _ h9 => h9) rfl dX7_work_69 ?_
      refine lv_iload_n hx hb dX7_work_72 rfl (lv_at hl 2 rfl) ?_
      obtain ⟨h12, hsp⟩ := z_in hsp
      refine va_iald hx hb hK.1 hP 28 0 rfl rfl h12 dX7_work_73 ?_
      obtain ⟨h13, hsp⟩ := z_in hsp
      refine va_iast hx hb hK.1 hP hD hS 19 0 rfl rfl h13 dX7_work_74 (fun H locs hP hD hS => ?_)
      obtain ⟨F14, eF14, hsp⟩ := z_lt hsp
      have hP : va_P dD vwCl (zQ cI q g_ F14) H := by rw [eF14]; exact hP
      have hD : va_D A (zQ cI q g_ F14) := by rw [eF14]; exact hD
      refine lv_aload_n hx hb dX7_work_75 rfl (lv_at hl 0 rfl) ?_
      refine va_get (D := dD) (ci := 7) (v := .ref (q 28)) (C := RX7) (T := TX7) (N := 41) hx hb hts iX7 hown hK.1 hP 0 rfl rfl 28 (by decide) f83 (fun _ h9 => h9) rfl dX7_work_76 ?_
      refine lv_iload_n hx hb dX7_work_79 rfl (lv_at hl 1 rfl) ?_
      refine lv_aload_n hx hb dX7_work_80 rfl (lv_at hl 0 rfl) ?_
      refine va_get (D := dD) (ci := 7) (v := .ref (q 39)) (C := RX7) (T := TX7) (N := 41) hx hb hts iX7 hown hK.1 hP 0 rfl rfl 39 (by decide) f113 (fun _ h9 => h9) rfl dX7_work_81 ?_
      refine lv_iload_n hx hb dX7_work_84 rfl (lv_at hl 2 rfl) ?_
      obtain ⟨h15, hsp⟩ := z_in hsp
      refine va_iald hx hb hK.1 hP 29 0 rfl rfl h15 dX7_work_85 ?_
      obtain ⟨h16, hsp⟩ := z_in hsp
      refine va_iast hx hb hK.1 hP hD hS 20 0 rfl rfl h16 dX7_work_86 (fun H locs hP hD hS => ?_)
      obtain ⟨F17, eF17, hsp⟩ := z_lt hsp
      have hP : va_P dD vwCl (zQ cI q g_ F17) H := by rw [eF17]; exact hP
      have hD : va_D A (zQ cI q g_ F17) := by rw [eF17]; exact hD
      obtain ⟨rfl, rfl⟩ := z_i2 hsp
      exact hret _ _ ls 87 dX7_work_87 hP hD hS
  unfold s_X7_work at hsp
  refine lv_aload_n hx hb dX7_work_0 rfl (lv_at hl 0 rfl) ?_
  refine va_get (D := dD) (ci := 7) (v := .ref (q 40)) (C := RX7) (T := TX7) (N := 41) hx hb hts iX7 hown hK.1 hP 0 rfl rfl 40 (by decide) f116 (fun _ h9 => h9) rfl dX7_work_1 ?_
  refine lv_iload_n hx hb dX7_work_4 rfl (lv_at hl 1 rfl) ?_
  obtain ⟨h1, hsp⟩ := z_in hsp
  refine va_iald hx hb hK.1 hP 30 0 rfl rfl h1 dX7_work_5 ?_
  obtain ⟨x2, ex2, hsp⟩ := z_lt hsp
  refine z_top ex2 ?_
  refine lv_istore_n (lv' := [(2, .int x2), (0, .ref (q 0)), (1, .int p1)]) hx hb dX7_work_6 rfl hl (by decide) rfl (fun ls hl => ?_)
  refine lv_iload_n hx hb dX7_work_7 rfl (lv_at hl 0 rfl) ?_
  refine lv_if_ge (tgt := 12) hx hb dX7_work_8 (by decide) (fun c3 => ?_) (fun c3 => ?_)
  · have hsp := z_t c3 hsp
    refine lv_aload_n hx hb dX7_work_12 rfl (lv_at hl 1 rfl) ?_
    refine va_get (D := dD) (ci := 7) (v := .ref (q 31)) (C := RX7) (T := TX7) (N := 41) hx hb hts iX7 hown hK.1 hP 0 rfl rfl 31 (by decide) f89 (fun _ h9 => h9) rfl dX7_work_13 ?_
    refine lv_iload_n hx hb dX7_work_16 rfl (lv_at hl 0 rfl) ?_
    obtain ⟨h4, hsp⟩ := z_in hsp
    refine va_iald hx hb hK.1 hP 21 0 rfl rfl h4 dX7_work_17 ?_
    refine lv_iconst (v := 1) hx hb dX7_work_18 (by decide) ?_
    refine lv_icmp_ne (tgt := 42) hx hb dX7_work_19 (by decide) (fun c5 => ?_) (fun c5 => ?_)
    · have hsp := z_f c5 hsp
      refine lv_aload_n hx hb dX7_work_42 rfl (lv_at hl 1 rfl) ?_
      refine lv_iload_n hx hb dX7_work_43 rfl (lv_at hl 2 rfl) ?_
      refine lv_iload_n hx hb dX7_work_44 rfl (lv_at hl 0 rfl) ?_
      obtain ⟨g6, F7, hc8, hsp⟩ := z_b2 hsp
      refine z_callVv ⟨hx, hb, hml, hown, hts⟩ hK (c_X7_mix l dD cI cA q g F (p1) (x2) g6 F7 hc8) (cwV 2 hts gX7_work_X7_mix rfl rfl rfl (by decide +kernel) ⟨Nat.le_of_ble_eq_true rfl, Nat.le_of_ble_eq_true rfl⟩) (zJ.full hP hD hS hA) hS 0 7 rfl rfl rfl rfl hl.1 rfl (Nat.le_of_ble_eq_true rfl) dX7_work_45 ⟨Nat.zero_le _, Nat.zero_le _⟩ (fun H locs hP hD hS => ?_)
      exact K_48 _ _ ls g6 F7 (p1) (x2) hP hD hS (lv_sub hl [1, 2, 0] rfl) hsp
    · have hsp := z_t c5 hsp
      refine lv_aload_n hx hb dX7_work_22 rfl (lv_at hl 1 rfl) ?_
      refine lv_iload_n hx hb dX7_work_23 rfl (lv_at hl 2 rfl) ?_
      refine lv_aload_n hx hb dX7_work_24 rfl (lv_at hl 1 rfl) ?_
      refine va_get (D := dD) (ci := 7) (v := .ref (q 32)) (C := RX7) (T := TX7) (N := 41) hx hb hts iX7 hown hK.1 hP 0 rfl rfl 32 (by decide) f92 (fun _ h9 => h9) rfl dX7_work_25 ?_
      refine lv_iload_n hx hb dX7_work_28 rfl (lv_at hl 0 rfl) ?_
      obtain ⟨h18, hsp⟩ := z_in hsp
      refine va_iald hx hb hK.1 hP 22 0 rfl rfl h18 dX7_work_29 ?_
      refine lv_aload_n hx hb dX7_work_30 rfl (lv_at hl 1 rfl) ?_
      refine va_get (D := dD) (ci := 7) (v := .ref (q 35)) (C := RX7) (T := TX7) (N := 41) hx hb hts iX7 hown hK.1 hP 0 rfl rfl 35 (by decide) f101 (fun _ h9 => h9) rfl dX7_work_31 ?_
      refine lv_iload_n hx hb dX7_work_34 rfl (lv_at hl 0 rfl) ?_
      obtain ⟨h19, hsp⟩ := z_in hsp
      refine va_iald hx hb hK.1 hP 25 0 rfl rfl h19 dX7_work_35 ?_
      obtain ⟨g20, F21, hc22, hsp⟩ := z_b2 hsp
      refine z_callVv ⟨hx, hb, hml, hown, hts⟩ hK (c_X7_tell l dD cI cA q g F (p1) (((F 32) (x2).toNatClampNeg)) (((F 35) (x2).toNatClampNeg)) g20 F21 hc22) (cwV 3 hts gX7_work_X7_tell rfl rfl rfl (by decide +kernel) ⟨Nat.le_of_ble_eq_true rfl, Nat.le_of_ble_eq_true rfl⟩) (zJ.full hP hD hS hA) hS 0 7 rfl rfl rfl rfl hl.1 rfl (Nat.le_of_ble_eq_true rfl) dX7_work_36 ⟨Nat.zero_le _, Nat.zero_le _⟩ (fun H locs hP hD hS => ?_)
      refine lv_goto (tgt := 48) hx hb dX7_work_39 (by decide) ?_
      exact K_48 _ _ ls g20 F21 (p1) (x2) hP hD hS (lv_sub hl [1, 2, 0] rfl) hsp
  · have hsp := z_f c3 hsp
    obtain ⟨rfl, rfl⟩ := z_i2 hsp
    exact hret _ _ ls 11 dX7_work_11 hP hD hS
def s_X7_finish_b69  (g_ : zF) (F_ : Nat → zF) (lo1 : Int32) : Option ((zF) × (Nat → zF)) := if lo1 < 0 ∨ 12 ≤ (lo1).toNatClampNeg then none else (if ((F_ 27) (lo1).toNatClampNeg) ≤ 0 then some (g_, F_) else if lo1 < 0 ∨ 12 ≤ (lo1).toNatClampNeg then none else (if ((g_ 6) + 1) < ((F_ 28) (lo1).toNatClampNeg) then some (g_, F_) else if lo1 < 0 ∨ 12 ≤ (lo1).toNatClampNeg then none else if lo1 < 0 ∨ 12 ≤ (lo1).toNatClampNeg then none else (if ((F_ 11) (lo1).toNatClampNeg) = ((F_ 27) (lo1).toNatClampNeg) then zb1 (s_X7_isWhole g_ F_ (lo1)) fun (v11 : Int32) => (if v11 = 0 then some (g_, F_) else if lo1 < 0 ∨ 12 ≤ (lo1).toNatClampNeg then none else if lo1 < 0 ∨ 12 ≤ (lo1).toNatClampNeg then none else zl (zu F_ 16 (lo1).toNatClampNeg (((F_ 11) (lo1).toNatClampNeg))) fun (F16 : Nat → zF) => some (g_, F16)) else some (g_, F_))))
def s_X7_finish_b57  (g_ : zF) (F_ : Nat → zF) (lo1 : Int32) (t0 : Int32) (t1 : Int32) : Option ((zF) × (Nat → zF)) := if t1 < 0 ∨ 12 ≤ (t1).toNatClampNeg then none else zl (zu F_ 17 (t1).toNatClampNeg (t0)) fun (F21 : Nat → zF) => zb2 (s_X7_begin g_ F21 (lo1) (((g_ 6) + 1))) fun (g22 : zF) (F23 : Nat → zF) => (s_X7_finish_b69  g22 F23 (lo1))
def s_X7_finish (g : zF) (F : Nat → zF) (p1 : Int32) : Option ((zF) × (Nat → zF)) := if p1 < 0 ∨ 12 ≤ (p1).toNatClampNeg then none else if p1 < 0 ∨ 12 ≤ (p1).toNatClampNeg then none else (if (((g 6) + 1) - ((F 18) (p1).toNatClampNeg)) < ((F 17) (p1).toNatClampNeg) then (s_X7_finish_b69  g F (p1)) else if p1 < 0 ∨ 12 ≤ (p1).toNatClampNeg then none else (if (2 * ((F 17) (p1).toNatClampNeg)) ≤ (g 3) then if p1 < 0 ∨ 12 ≤ (p1).toNatClampNeg then none else (s_X7_finish_b57  g F (p1) ((2 * ((F 17) (p1).toNatClampNeg))) (p1)) else (s_X7_finish_b57  g F (p1) ((g 3)) (p1))))
abbrev rm_X7_finish : Room := { frames := 2, cells := 0, slots := 0, locals := 44 }
set_option maxHeartbeats 4000000 in
set_option maxRecDepth 100000 in
theorem c_X7_finish (l : Launch) (dD : va_G) (cI cA : ClassId) (q : Nat → Nat) (g : zF) (F : Nat → zF) (p1 : Int32) (r_g : zF) (r_F : Nat → zF) (hsp : s_X7_finish g F p1 = some (r_g, r_F)) : zMv l yX7_finish wsX7_finish rm_X7_finish dD cI cA [.ref (q 0), .int p1] (zQ cI q g F) (zQ cI q r_g r_F) := by
  refine zMv_of (cc := cX7_finish) (maxL := 2) (by decide) rfl (Nat.le_of_ble_eq_true rfl) ?_
  intro p e s m args below meth c A Q ls hx hb hml hown hts hK hA hP hD hl hret
  have hown : s.vm.findClass RX7 = some m.cls := hown
  have iX7 : ∀ w ∈ wsX70, w ∈ wsX7_finish := by decide +kernel
  have f131 := hts (.fieldLink RX7 131 "MeshFieldModel" "tick" "I") (by decide +kernel)
  have f53 := hts (.fieldLink RX7 53 "MeshFieldModel" "began" "[I") (by decide +kernel)
  have f50 := hts (.fieldLink RX7 50 "MeshFieldModel" "span" "[I") (by decide +kernel)
  have f80 := hts (.fieldLink RX7 80 "MeshFieldModel" "turnNumber" "[I") (by decide +kernel)
  have f83 := hts (.fieldLink RX7 83 "MeshFieldModel" "turnTick" "[I") (by decide +kernel)
  have f32 := hts (.fieldLink RX7 32 "MeshFieldModel" "number" "[I") (by decide +kernel)
  have f47 := hts (.fieldLink RX7 47 "MeshFieldModel" "runs" "[I") (by decide +kernel)
  have f19 := hts (.fieldLink RX7 19 "MeshFieldModel" "high" "I") (by decide +kernel)
  have hS : va_S A s.heap s.heap [] := va_S.rf
  have hl : lv_has ls 2 [(0, .ref (q 0)), (1, .int p1)] := hl
  have K_69 : ∀ (H : Heap) (locs : List Loc) (ls : Array Slot) (g_ : zF) (F_ : Nat → zF) (lo1 : Int32), va_P dD vwCl (zQ cI q g_ F_) H → va_D A (zQ cI q g_ F_) → va_S A s.heap H locs → lv_has ls 2 [(0, .ref (q 0)), (1, .int lo1)] → s_X7_finish_b69  g_ F_ lo1 = some (r_g, r_F) → W p l e rm_X7_finish s m args below meth c H locs 0 0 Q (F0 m 69 ls []) := by
    intro H locs ls g_ F_ lo1 hP hD hS hl hsp
    unfold s_X7_finish_b69 at hsp
    refine lv_aload_n hx hb dX7_finish_69 rfl (lv_at hl 0 rfl) ?_
    refine va_get (D := dD) (ci := 7) (v := .ref (q 27)) (C := RX7) (T := TX7) (N := 41) hx hb hts iX7 hown hK.1 hP 0 rfl rfl 27 (by decide) f80 (fun _ h9 => h9) rfl dX7_finish_70 ?_
    refine lv_iload_n hx hb dX7_finish_73 rfl (lv_at hl 1 rfl) ?_
    obtain ⟨h4, hsp⟩ := z_in hsp
    refine va_iald hx hb hK.1 hP 19 0 rfl rfl h4 dX7_finish_74 ?_
    refine lv_if_le (tgt := 128) hx hb dX7_finish_75 (by decide) (fun c5 => ?_) (fun c5 => ?_)
    · have hsp := z_t c5 hsp
      obtain ⟨rfl, rfl⟩ := z_i2 hsp
      exact hret _ _ ls 128 dX7_finish_128 hP hD hS
    · have hsp := z_f c5 hsp
      refine lv_aload_n hx hb dX7_finish_78 rfl (lv_at hl 0 rfl) ?_
      refine va_get (D := dD) (ci := 7) (v := .int (g_ 6)) (C := RX7) (T := TX7) (N := 41) hx hb hts iX7 hown hK.1 hP 0 rfl rfl 6 (by decide) f131 (fun _ h9 => h9) rfl dX7_finish_79 ?_
      refine lv_iconst (v := 1) hx hb dX7_finish_82 (by decide) ?_
      refine lv_iadd hx hb dX7_finish_83 ?_
      refine lv_aload_n hx hb dX7_finish_84 rfl (lv_at hl 0 rfl) ?_
      refine va_get (D := dD) (ci := 7) (v := .ref (q 28)) (C := RX7) (T := TX7) (N := 41) hx hb hts iX7 hown hK.1 hP 0 rfl rfl 28 (by decide) f83 (fun _ h9 => h9) rfl dX7_finish_85 ?_
      refine lv_iload_n hx hb dX7_finish_88 rfl (lv_at hl 1 rfl) ?_
      obtain ⟨h6, hsp⟩ := z_in hsp
      refine va_iald hx hb hK.1 hP 20 0 rfl rfl h6 dX7_finish_89 ?_
      refine lv_icmp_lt (tgt := 128) hx hb dX7_finish_90 (by decide) (fun c7 => ?_) (fun c7 => ?_)
      · have hsp := z_t c7 hsp
        obtain ⟨rfl, rfl⟩ := z_i2 hsp
        exact hret _ _ ls 128 dX7_finish_128 hP hD hS
      · have hsp := z_f c7 hsp
        refine lv_aload_n hx hb dX7_finish_93 rfl (lv_at hl 0 rfl) ?_
        refine va_get (D := dD) (ci := 7) (v := .ref (q 11)) (C := RX7) (T := TX7) (N := 41) hx hb hts iX7 hown hK.1 hP 0 rfl rfl 11 (by decide) f32 (fun _ h9 => h9) rfl dX7_finish_94 ?_
        refine lv_iload_n hx hb dX7_finish_97 rfl (lv_at hl 1 rfl) ?_
        obtain ⟨h8, hsp⟩ := z_in hsp
        refine va_iald hx hb hK.1 hP 3 0 rfl rfl h8 dX7_finish_98 ?_
        refine lv_aload_n hx hb dX7_finish_99 rfl (lv_at hl 0 rfl) ?_
        refine va_get (D := dD) (ci := 7) (v := .ref (q 27)) (C := RX7) (T := TX7) (N := 41) hx hb hts iX7 hown hK.1 hP 0 rfl rfl 27 (by decide) f80 (fun _ h9 => h9) rfl dX7_finish_100 ?_
        refine lv_iload_n hx hb dX7_finish_103 rfl (lv_at hl 1 rfl) ?_
        obtain ⟨h9, hsp⟩ := z_in hsp
        refine va_iald hx hb hK.1 hP 19 0 rfl rfl h9 dX7_finish_104 ?_
        refine lv_icmp_ne (tgt := 128) hx hb dX7_finish_105 (by decide) (fun c10 => ?_) (fun c10 => ?_)
        · have hsp := z_f c10 hsp
          obtain ⟨rfl, rfl⟩ := z_i2 hsp
          exact hret _ _ ls 128 dX7_finish_128 hP hD hS
        · have hsp := z_t c10 hsp
          refine lv_aload_n hx hb dX7_finish_108 rfl (lv_at hl 0 rfl) ?_
          refine lv_iload_n hx hb dX7_finish_109 rfl (lv_at hl 1 rfl) ?_
          obtain ⟨v11, hc12, hsp⟩ := z_b1 hsp
          refine z_callVi ⟨hx, hb, hml, hown, hts⟩ hK (c_X7_isWhole l dD cI cA q g_ F_ (lo1) v11 hc12) (cwV 1 hts gX7_finish_X7_isWhole rfl rfl rfl (by decide +kernel) ⟨Nat.le_of_ble_eq_true rfl, Nat.le_of_ble_eq_true rfl⟩) (zJ.full hP hD hS hA) hS 0 7 rfl rfl rfl rfl hl.1 rfl (Nat.le_of_ble_eq_true rfl) dX7_finish_110 ⟨Nat.zero_le _, Nat.zero_le _⟩ (fun H locs hP hD hS => ?_)
          refine lv_if_eq (tgt := 128) hx hb dX7_finish_113 (by decide) (fun c13 => ?_) (fun c13 => ?_)
          · have hsp := z_t c13 hsp
            obtain ⟨rfl, rfl⟩ := z_i2 hsp
            exact hret _ _ ls 128 dX7_finish_128 hP hD hS
          · have hsp := z_f c13 hsp
            refine lv_aload_n hx hb dX7_finish_116 rfl (lv_at hl 0 rfl) ?_
            refine va_get (D := dD) (ci := 7) (v := .ref (q 16)) (C := RX7) (T := TX7) (N := 41) hx hb hts iX7 hown hK.1 hP 0 rfl rfl 16 (by decide) f47 (fun _ h9 => h9) rfl dX7_finish_117 ?_
            refine lv_iload_n hx hb dX7_finish_120 rfl (lv_at hl 1 rfl) ?_
            refine lv_aload_n hx hb dX7_finish_121 rfl (lv_at hl 0 rfl) ?_
            refine va_get (D := dD) (ci := 7) (v := .ref (q 11)) (C := RX7) (T := TX7) (N := 41) hx hb hts iX7 hown hK.1 hP 0 rfl rfl 11 (by decide) f32 (fun _ h9 => h9) rfl dX7_finish_122 ?_
            refine lv_iload_n hx hb dX7_finish_125 rfl (lv_at hl 1 rfl) ?_
            obtain ⟨h14, hsp⟩ := z_in hsp
            refine va_iald hx hb hK.1 hP 3 0 rfl rfl h14 dX7_finish_126 ?_
            obtain ⟨h15, hsp⟩ := z_in hsp
            refine va_iast hx hb hK.1 hP hD hS 8 0 rfl rfl h15 dX7_finish_127 (fun H locs hP hD hS => ?_)
            obtain ⟨F16, eF16, hsp⟩ := z_lt hsp
            have hP : va_P dD vwCl (zQ cI q g_ F16) H := by rw [eF16]; exact hP
            have hD : va_D A (zQ cI q g_ F16) := by rw [eF16]; exact hD
            obtain ⟨rfl, rfl⟩ := z_i2 hsp
            exact hret _ _ ls 128 dX7_finish_128 hP hD hS
  have K_57 : ∀ (H : Heap) (locs : List Loc) (ls : Array Slot) (g_ : zF) (F_ : Nat → zF) (lo1 : Int32) (t0 : Int32) (t1 : Int32), va_P dD vwCl (zQ cI q g_ F_) H → va_D A (zQ cI q g_ F_) → va_S A s.heap H locs → lv_has ls 2 [(0, .ref (q 0)), (1, .int lo1)] → s_X7_finish_b57  g_ F_ lo1 t0 t1 = some (r_g, r_F) → W p l e rm_X7_finish s m args below meth c H locs 0 0 Q (F0 m 57 ls [.int t0, .int t1, .ref (q 17)]) := by
    intro H locs ls g_ F_ lo1 t0 t1 hP hD hS hl hsp
    unfold s_X7_finish_b57 at hsp
    obtain ⟨h20, hsp⟩ := z_in hsp
    refine va_iast hx hb hK.1 hP hD hS 9 0 rfl rfl h20 dX7_finish_57 (fun H locs hP hD hS => ?_)
    obtain ⟨F21, eF21, hsp⟩ := z_lt hsp
    have hP : va_P dD vwCl (zQ cI q g_ F21) H := by rw [eF21]; exact hP
    have hD : va_D A (zQ cI q g_ F21) := by rw [eF21]; exact hD
    refine lv_aload_n hx hb dX7_finish_58 rfl (lv_at hl 0 rfl) ?_
    refine lv_iload_n hx hb dX7_finish_59 rfl (lv_at hl 1 rfl) ?_
    refine lv_aload_n hx hb dX7_finish_60 rfl (lv_at hl 0 rfl) ?_
    refine va_get (D := dD) (ci := 7) (v := .int (g_ 6)) (C := RX7) (T := TX7) (N := 41) hx hb hts iX7 hown hK.1 hP 0 rfl rfl 6 (by decide) f131 (fun _ h9 => h9) rfl dX7_finish_61 ?_
    refine lv_iconst (v := 1) hx hb dX7_finish_64 (by decide) ?_
    refine lv_iadd hx hb dX7_finish_65 ?_
    obtain ⟨g22, F23, hc24, hsp⟩ := z_b2 hsp
    refine z_callVv ⟨hx, hb, hml, hown, hts⟩ hK (c_X7_begin l dD cI cA q g_ F21 (lo1) (((g_ 6) + 1)) g22 F23 hc24) (cwV 2 hts gX7_finish_X7_begin rfl rfl rfl (by decide +kernel) ⟨Nat.le_of_ble_eq_true rfl, Nat.le_of_ble_eq_true rfl⟩) (zJ.full hP hD hS hA) hS 0 7 rfl rfl rfl rfl hl.1 rfl (Nat.le_of_ble_eq_true rfl) dX7_finish_66 ⟨Nat.zero_le _, Nat.zero_le _⟩ (fun H locs hP hD hS => ?_)
    exact K_69 _ _ ls g22 F23 (lo1) hP hD hS (lv_sub hl [0, 1] rfl) hsp
  unfold s_X7_finish at hsp
  refine lv_aload_n hx hb dX7_finish_0 rfl (lv_at hl 0 rfl) ?_
  refine va_get (D := dD) (ci := 7) (v := .int (g 6)) (C := RX7) (T := TX7) (N := 41) hx hb hts iX7 hown hK.1 hP 0 rfl rfl 6 (by decide) f131 (fun _ h9 => h9) rfl dX7_finish_1 ?_
  refine lv_iconst (v := 1) hx hb dX7_finish_4 (by decide) ?_
  refine lv_iadd hx hb dX7_finish_5 ?_
  refine lv_aload_n hx hb dX7_finish_6 rfl (lv_at hl 0 rfl) ?_
  refine va_get (D := dD) (ci := 7) (v := .ref (q 18)) (C := RX7) (T := TX7) (N := 41) hx hb hts iX7 hown hK.1 hP 0 rfl rfl 18 (by decide) f53 (fun _ h9 => h9) rfl dX7_finish_7 ?_
  refine lv_iload_n hx hb dX7_finish_10 rfl (lv_at hl 1 rfl) ?_
  obtain ⟨h1, hsp⟩ := z_in hsp
  refine va_iald hx hb hK.1 hP 10 0 rfl rfl h1 dX7_finish_11 ?_
  refine lv_isub hx hb dX7_finish_12 ?_
  refine lv_aload_n hx hb dX7_finish_13 rfl (lv_at hl 0 rfl) ?_
  refine va_get (D := dD) (ci := 7) (v := .ref (q 17)) (C := RX7) (T := TX7) (N := 41) hx hb hts iX7 hown hK.1 hP 0 rfl rfl 17 (by decide) f50 (fun _ h9 => h9) rfl dX7_finish_14 ?_
  refine lv_iload_n hx hb dX7_finish_17 rfl (lv_at hl 1 rfl) ?_
  obtain ⟨h2, hsp⟩ := z_in hsp
  refine va_iald hx hb hK.1 hP 9 0 rfl rfl h2 dX7_finish_18 ?_
  refine lv_icmp_lt (tgt := 69) hx hb dX7_finish_19 (by decide) (fun c3 => ?_) (fun c3 => ?_)
  · have hsp := z_t c3 hsp
    exact K_69 _ _ ls g F (p1) hP hD hS (lv_sub hl [0, 1] rfl) hsp
  · have hsp := z_f c3 hsp
    refine lv_aload_n hx hb dX7_finish_22 rfl (lv_at hl 0 rfl) ?_
    refine va_get (D := dD) (ci := 7) (v := .ref (q 17)) (C := RX7) (T := TX7) (N := 41) hx hb hts iX7 hown hK.1 hP 0 rfl rfl 17 (by decide) f50 (fun _ h9 => h9) rfl dX7_finish_23 ?_
    refine lv_iload_n hx hb dX7_finish_26 rfl (lv_at hl 1 rfl) ?_
    refine lv_iconst (v := 2) hx hb dX7_finish_27 (by decide) ?_
    refine lv_aload_n hx hb dX7_finish_28 rfl (lv_at hl 0 rfl) ?_
    refine va_get (D := dD) (ci := 7) (v := .ref (q 17)) (C := RX7) (T := TX7) (N := 41) hx hb hts iX7 hown hK.1 hP 0 rfl rfl 17 (by decide) f50 (fun _ h9 => h9) rfl dX7_finish_29 ?_
    refine lv_iload_n hx hb dX7_finish_32 rfl (lv_at hl 1 rfl) ?_
    obtain ⟨h17, hsp⟩ := z_in hsp
    refine va_iald hx hb hK.1 hP 9 0 rfl rfl h17 dX7_finish_33 ?_
    refine lv_imul hx hb dX7_finish_34 ?_
    refine lv_aload_n hx hb dX7_finish_35 rfl (lv_at hl 0 rfl) ?_
    refine va_get (D := dD) (ci := 7) (v := .int (g 3)) (C := RX7) (T := TX7) (N := 41) hx hb hts iX7 hown hK.1 hP 0 rfl rfl 3 (by decide) f19 (fun _ h9 => h9) rfl dX7_finish_36 ?_
    refine lv_icmp_le (tgt := 49) hx hb dX7_finish_39 (by decide) (fun c18 => ?_) (fun c18 => ?_)
    · have hsp := z_t c18 hsp
      refine lv_iconst (v := 2) hx hb dX7_finish_49 (by decide) ?_
      refine lv_aload_n hx hb dX7_finish_50 rfl (lv_at hl 0 rfl) ?_
      refine va_get (D := dD) (ci := 7) (v := .ref (q 17)) (C := RX7) (T := TX7) (N := 41) hx hb hts iX7 hown hK.1 hP 0 rfl rfl 17 (by decide) f50 (fun _ h9 => h9) rfl dX7_finish_51 ?_
      refine lv_iload_n hx hb dX7_finish_54 rfl (lv_at hl 1 rfl) ?_
      obtain ⟨h19, hsp⟩ := z_in hsp
      refine va_iald hx hb hK.1 hP 9 0 rfl rfl h19 dX7_finish_55 ?_
      refine lv_imul hx hb dX7_finish_56 ?_
      exact K_57 _ _ ls g F (p1) ((2 * ((F 17) (p1).toNatClampNeg))) (p1) hP hD hS (lv_sub hl [0, 1] rfl) hsp
    · have hsp := z_f c18 hsp
      refine lv_aload_n hx hb dX7_finish_42 rfl (lv_at hl 0 rfl) ?_
      refine va_get (D := dD) (ci := 7) (v := .int (g 3)) (C := RX7) (T := TX7) (N := 41) hx hb hts iX7 hown hK.1 hP 0 rfl rfl 3 (by decide) f19 (fun _ h9 => h9) rfl dX7_finish_43 ?_
      refine lv_goto (tgt := 57) hx hb dX7_finish_46 (by decide) ?_
      exact K_57 _ _ ls g F (p1) ((g 3)) (p1) hP hD hS (lv_sub hl [0, 1] rfl) hsp
