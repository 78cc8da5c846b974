def s_X7_comesIn_b114 (g : zF) : Nat → (Nat → zF) → (Int32) → (Int32) → (Int32) → (Int32) → (Int32) → Option (Int32 × (Nat → zF))
  | 0, _, _, _, _, _, _ => none
  | n114 + 1, F_, lo1, lo4, lo5, lo6, lo7 => (if 12 ≤ lo7 then if ((12 * lo1) + lo6) < 0 ∨ 144 ≤ (((12 * lo1) + lo6)).toNatClampNeg then none else zl (zu F_ 14 (((12 * lo1) + lo6)).toNatClampNeg (lo4)) fun (F6 : Nat → zF) => if ((12 * lo1) + lo6) < 0 ∨ 144 ≤ (((12 * lo1) + lo6)).toNatClampNeg then none else zl (zu F6 15 (((12 * lo1) + lo6)).toNatClampNeg (lo5)) fun (F8 : Nat → zF) => zb1 (s_X7_rank g F8 (lo1)) fun (v9 : Int32) => if lo1 < 0 ∨ 12 ≤ (lo1).toNatClampNeg then none else (if v9 = ((F8 12) (lo1).toNatClampNeg) then zb1 (s_X7_sumOf g F8 (lo1)) fun (v13 : Int32) => if lo1 < 0 ∨ 12 ≤ (lo1).toNatClampNeg then none else (if v13 = ((F8 13) (lo1).toNatClampNeg) then some (1, F8) else if lo1 < 0 ∨ 12 ≤ (lo1).toNatClampNeg then none else if lo1 < 0 ∨ 12 ≤ (lo1).toNatClampNeg then none else zl (zu F8 26 (lo1).toNatClampNeg ((((F8 26) (lo1).toNatClampNeg) + 1))) fun (F19 : Nat → zF) => zb1 (s_X7_empty g F19 (lo1)) fun (F20 : Nat → zF) => some (1, F20)) else some (1, F8)) else if ((12 * lo1) + lo7) < 0 ∨ 144 ≤ (((12 * lo1) + lo7)).toNatClampNeg then none else (if ((zShr ((F_ 14) (((12 * lo1) + lo7)).toNatClampNeg) lo6) &&& 1) = 0 then zl (lo7 + 1) fun (x31 : Int32) => (s_X7_comesIn_b114 g n114 F_ (lo1) (lo4) (lo5) (lo6) (x31)) else if ((12 * lo1) + lo7) < 0 ∨ 144 ≤ (((12 * lo1) + lo7)).toNatClampNeg then none else if ((12 * lo1) + lo7) < 0 ∨ 144 ≤ (((12 * lo1) + lo7)).toNatClampNeg then none else zl (zu F_ 14 (((12 * lo1) + lo7)).toNatClampNeg ((((F_ 14) (((12 * lo1) + lo7)).toNatClampNeg) ^^^ lo4))) fun (F26 : Nat → zF) => if ((12 * lo1) + lo7) < 0 ∨ 144 ≤ (((12 * lo1) + lo7)).toNatClampNeg then none else if ((12 * lo1) + lo7) < 0 ∨ 144 ≤ (((12 * lo1) + lo7)).toNatClampNeg then none else zl (zu F26 15 (((12 * lo1) + lo7)).toNatClampNeg ((((F26 15) (((12 * lo1) + lo7)).toNatClampNeg) ^^^ lo5))) fun (F29 : Nat → zF) => zl (lo7 + 1) fun (x30 : Int32) => (s_X7_comesIn_b114 g n114 F29 (lo1) (lo4) (lo5) (lo6) (x30))))
def s_X7_comesIn_b95 (g : zF) : Nat → (Nat → zF) → (Int32) → (Int32) → (Int32) → (Int32) → Option (Int32 × (Nat → zF))
  | 0, _, _, _, _, _ => none
  | n95 + 1, F_, lo1, lo4, lo5, lo6 => (if ((zShr lo4 lo6) &&& 1) = 0 then zl (lo6 + (-1)) fun (x32 : Int32) => (s_X7_comesIn_b95 g n95 F_ (lo1) (lo4) (lo5) (x32)) else (s_X7_comesIn_b114 g 13 F_ (lo1) (lo4) (lo5) (lo6) (0)))
def s_X7_comesIn_b9 (g : zF) : Nat → (Nat → zF) → (Int32) → (Int32) → (Int32) → (Int32) → Option (Int32 × (Nat → zF))
  | 0, _, _, _, _, _ => none
  | n9 + 1, F_, lo1, lo4, lo5, lo6 => (if 12 ≤ lo6 then (if lo4 = 0 then some (0, F_) else (s_X7_comesIn_b95 g 13 F_ (lo1) (lo4) (lo5) (11))) else if ((12 * lo1) + lo6) < 0 ∨ 144 ≤ (((12 * lo1) + lo6)).toNatClampNeg then none else (if ((F_ 14) (((12 * lo1) + lo6)).toNatClampNeg) = 0 then zl (lo6 + 1) fun (x35 : Int32) => (s_X7_comesIn_b9 g n9 F_ (lo1) (lo4) (lo5) (x35)) else (if ((zShr lo4 lo6) &&& 1) = 0 then zl (lo6 + 1) fun (x42 : Int32) => (s_X7_comesIn_b9 g n9 F_ (lo1) (lo4) (lo5) (x42)) else if ((12 * lo1) + lo6) < 0 ∨ 144 ≤ (((12 * lo1) + lo6)).toNatClampNeg then none else zl ((lo4 ^^^ ((F_ 14) (((12 * lo1) + lo6)).toNatClampNeg))) fun (x38 : Int32) => if ((12 * lo1) + lo6) < 0 ∨ 144 ≤ (((12 * lo1) + lo6)).toNatClampNeg then none else zl ((lo5 ^^^ ((F_ 15) (((12 * lo1) + lo6)).toNatClampNeg))) fun (x40 : Int32) => zl (lo6 + 1) fun (x41 : Int32) => (s_X7_comesIn_b9 g n9 F_ (lo1) (x38) (x40) (x41)))))
def s_X7_comesIn (g : zF) (F : Nat → zF) (p1 : Int32) (p2 : Int32) (p3 : Int32) : Option (Int32 × (Nat → zF)) := (s_X7_comesIn_b9 g 13 F (p1) (p2) (p3) (0))
abbrev rm_X7_comesIn : Room := { frames := 1, cells := 0, slots := 0, locals := 23 }
set_option maxHeartbeats 4000000 in
set_option maxRecDepth 100000 in
theorem c_X7_comesIn (l : Launch) (dD : va_G) (cI cA : ClassId) (q : Nat → Nat) (g : zF) (F : Nat → zF) (p1 : Int32) (p2 : Int32) (p3 : Int32) (rv : Int32) (r_F : Nat → zF) (hsp : s_X7_comesIn g F p1 p2 p3 = some (rv, r_F)) : zMi l yX7_comesIn wsX7_comesIn rm_X7_comesIn dD cI cA [.ref (q 0), .int p1, .int p2, .int p3] (zQ cI q g F) (zQ cI q g r_F) rv := by
  refine zMi_of (cc := cX7_comesIn) (maxL := 8) (by decide) rfl (Nat.le_of_ble_eq_true rfl) ?_
  intro p e s m args below meth c A Q ls hx hb hml hown hts hK hA hP hD hl hret
  have hown : s.vm.findClass RX7 = some m.cls := hown
  have iX7 : ∀ w ∈ wsX70, w ∈ wsX7_comesIn := by decide +kernel
  have f41 := hts (.fieldLink RX7 41 "MeshFieldModel" "mask" "[I") (by decide +kernel)
  have f44 := hts (.fieldLink RX7 44 "MeshFieldModel" "data" "[I") (by decide +kernel)
  have f35 := hts (.fieldLink RX7 35 "MeshFieldModel" "many" "[I") (by decide +kernel)
  have f38 := hts (.fieldLink RX7 38 "MeshFieldModel" "sum" "[I") (by decide +kernel)
  have f77 := hts (.fieldLink RX7 77 "MeshFieldModel" "lies" "[I") (by decide +kernel)
  have hS : va_S A s.heap s.heap [] := va_S.rf
  have hl : lv_has ls 8 [(0, .ref (q 0)), (1, .int p1), (2, .int p2), (3, .int p3)] := hl
  have K_114 : ∀ (nf : Nat) (H : Heap) (locs : List Loc) (ls : Array Slot) (F_ : Nat → zF) (lo1 : Int32) (lo4 : Int32) (lo5 : Int32) (lo6 : Int32) (lo7 : Int32), va_P dD vwCl (zQ cI q g F_) H → va_D A (zQ cI q g F_) → va_S A s.heap H locs → lv_has ls 8 [(0, .ref (q 0)), (1, .int lo1), (4, .int lo4), (5, .int lo5), (6, .int lo6), (7, .int lo7)] → s_X7_comesIn_b114 g nf F_ lo1 lo4 lo5 lo6 lo7 = some (rv, r_F) → W p l e rm_X7_comesIn s m args below meth c H locs 0 0 Q (F0 m 114 ls []) := by
    intro nf
    induction nf with
    | zero =>
      intro H locs ls F_ lo1 lo4 lo5 lo6 lo7 hP hD hS hl hsp
      exact absurd (show (none : Option (Int32 × (Nat → zF))) = some (rv, r_F) from hsp) (fun h => by cases h)
    | succ n114 ih114 =>
      intro H locs ls F_ lo1 lo4 lo5 lo6 lo7 hP hD hS hl hsp
      rw [s_X7_comesIn_b114] at hsp
      refine lv_iload hx hb dX7_comesIn_114 (lv_at hl 5 rfl) ?_
      refine lv_bipush (v := 12) hx hb dX7_comesIn_116 (by decide) ?_
      refine lv_icmp_ge (tgt := 184) hx hb dX7_comesIn_118 (by decide) (fun c4 => ?_) (fun c4 => ?_)
      · have hsp := z_t c4 hsp
        refine lv_aload_n hx hb dX7_comesIn_184 rfl (lv_at hl 0 rfl) ?_
        refine va_get (D := dD) (ci := 7) (v := .ref (q 14)) (C := RX7) (T := TX7) (N := 41) hx hb hts iX7 hown hK.1 hP 0 rfl rfl 14 (by decide) f41 (fun _ h9 => h9) rfl dX7_comesIn_185 ?_
        refine lv_bipush (v := 12) hx hb dX7_comesIn_188 (by decide) ?_
        refine lv_iload_n hx hb dX7_comesIn_190 rfl (lv_at hl 1 rfl) ?_
        refine lv_imul hx hb dX7_comesIn_191 ?_
        refine lv_iload hx hb dX7_comesIn_192 (lv_at hl 4 rfl) ?_
        refine lv_iadd hx hb dX7_comesIn_194 ?_
        refine lv_iload hx hb dX7_comesIn_195 (lv_at hl 2 rfl) ?_
        obtain ⟨h5, hsp⟩ := z_in hsp
        refine va_iast hx hb hK.1 hP hD hS 6 0 rfl rfl h5 dX7_comesIn_197 (fun H locs hP hD hS => ?_)
        obtain ⟨F6, eF6, hsp⟩ := z_lt hsp
        have hP : va_P dD vwCl (zQ cI q g F6) H := by rw [eF6]; exact hP
        have hD : va_D A (zQ cI q g F6) := by rw [eF6]; exact hD
        refine lv_aload_n hx hb dX7_comesIn_198 rfl (lv_at hl 0 rfl) ?_
        refine va_get (D := dD) (ci := 7) (v := .ref (q 15)) (C := RX7) (T := TX7) (N := 41) hx hb hts iX7 hown hK.1 hP 0 rfl rfl 15 (by decide) f44 (fun _ h9 => h9) rfl dX7_comesIn_199 ?_
        refine lv_bipush (v := 12) hx hb dX7_comesIn_202 (by decide) ?_
        refine lv_iload_n hx hb dX7_comesIn_204 rfl (lv_at hl 1 rfl) ?_
        refine lv_imul hx hb dX7_comesIn_205 ?_
        refine lv_iload hx hb dX7_comesIn_206 (lv_at hl 4 rfl) ?_
        refine lv_iadd hx hb dX7_comesIn_208 ?_
        refine lv_iload hx hb dX7_comesIn_209 (lv_at hl 3 rfl) ?_
        obtain ⟨h7, hsp⟩ := z_in hsp
        refine va_iast hx hb hK.1 hP hD hS 7 0 rfl rfl h7 dX7_comesIn_211 (fun H locs hP hD hS => ?_)
        obtain ⟨F8, eF8, hsp⟩ := z_lt hsp
        have hP : va_P dD vwCl (zQ cI q g F8) H := by rw [eF8]; exact hP
        have hD : va_D A (zQ cI q g F8) := by rw [eF8]; exact hD
        refine lv_aload_n hx hb dX7_comesIn_212 rfl (lv_at hl 0 rfl) ?_
        refine lv_iload_n hx hb dX7_comesIn_213 rfl (lv_at hl 1 rfl) ?_
        obtain ⟨v9, hc10, hsp⟩ := z_b1 hsp
        refine z_callVi ⟨hx, hb, hml, hown, hts⟩ hK (c_X7_rank l dD cI cA q g F8 (lo1) v9 hc10) (cwV 1 hts gX7_comesIn_X7_rank rfl rfl rfl (by decide +kernel) ⟨Nat.le_of_ble_eq_true rfl, Nat.le_of_ble_eq_true rfl⟩) (zJ.full hP hD hS hA) hS 0 7 rfl rfl rfl rfl hl.1 rfl (Nat.le_of_ble_eq_true rfl) dX7_comesIn_214 ⟨Nat.zero_le _, Nat.zero_le _⟩ (fun H locs hP hD hS => ?_)
        refine lv_aload_n hx hb dX7_comesIn_217 rfl (lv_at hl 0 rfl) ?_
        refine va_get (D := dD) (ci := 7) (v := .ref (q 12)) (C := RX7) (T := TX7) (N := 41) hx hb hts iX7 hown hK.1 hP 0 rfl rfl 12 (by decide) f35 (fun _ h9 => h9) rfl dX7_comesIn_218 ?_
        refine lv_iload_n hx hb dX7_comesIn_221 rfl (lv_at hl 1 rfl) ?_
        obtain ⟨h11, hsp⟩ := z_in hsp
        refine va_iald hx hb hK.1 hP 4 0 rfl rfl h11 dX7_comesIn_222 ?_
        refine lv_icmp_ne (tgt := 255) hx hb dX7_comesIn_223 (by decide) (fun c12 => ?_) (fun c12 => ?_)
        · have hsp := z_f c12 hsp
          refine lv_iconst (v := 1) hx hb dX7_comesIn_255 (by decide) ?_
          obtain ⟨rfl, rfl⟩ := z_i2 hsp
          exact hret _ _ ls 256 dX7_comesIn_256 rfl hP hD hS
        · have hsp := z_t c12 hsp
          refine lv_aload_n hx hb dX7_comesIn_226 rfl (lv_at hl 0 rfl) ?_
          refine lv_iload_n hx hb dX7_comesIn_227 rfl (lv_at hl 1 rfl) ?_
          obtain ⟨v13, hc14, hsp⟩ := z_b1 hsp
          refine z_callVi ⟨hx, hb, hml, hown, hts⟩ hK (c_X7_sumOf l dD cI cA q g F8 (lo1) v13 hc14) (cwV 1 hts gX7_comesIn_X7_sumOf rfl rfl rfl (by decide +kernel) ⟨Nat.le_of_ble_eq_true rfl, Nat.le_of_ble_eq_true rfl⟩) (zJ.full hP hD hS hA) hS 0 7 rfl rfl rfl rfl hl.1 rfl (Nat.le_of_ble_eq_true rfl) dX7_comesIn_228 ⟨Nat.zero_le _, Nat.zero_le _⟩ (fun H locs hP hD hS => ?_)
          refine lv_aload_n hx hb dX7_comesIn_231 rfl (lv_at hl 0 rfl) ?_
          refine va_get (D := dD) (ci := 7) (v := .ref (q 13)) (C := RX7) (T := TX7) (N := 41) hx hb hts iX7 hown hK.1 hP 0 rfl rfl 13 (by decide) f38 (fun _ h9 => h9) rfl dX7_comesIn_232 ?_
          refine lv_iload_n hx hb dX7_comesIn_235 rfl (lv_at hl 1 rfl) ?_
          obtain ⟨h15, hsp⟩ := z_in hsp
          refine va_iald hx hb hK.1 hP 5 0 rfl rfl h15 dX7_comesIn_236 ?_
          refine lv_icmp_eq (tgt := 255) hx hb dX7_comesIn_237 (by decide) (fun c16 => ?_) (fun c16 => ?_)
          · have hsp := z_t c16 hsp
            refine lv_iconst (v := 1) hx hb dX7_comesIn_255 (by decide) ?_
            obtain ⟨rfl, rfl⟩ := z_i2 hsp
            exact hret _ _ ls 256 dX7_comesIn_256 rfl hP hD hS
          · have hsp := z_f c16 hsp
            refine lv_aload_n hx hb dX7_comesIn_240 rfl (lv_at hl 0 rfl) ?_
            refine va_get (D := dD) (ci := 7) (v := .ref (q 26)) (C := RX7) (T := TX7) (N := 41) hx hb hts iX7 hown hK.1 hP 0 rfl rfl 26 (by decide) f77 (fun _ h9 => h9) rfl dX7_comesIn_241 ?_
            refine lv_iload_n hx hb dX7_comesIn_244 rfl (lv_at hl 1 rfl) ?_
            refine lv_dup2_11 hx hb dX7_comesIn_245 rfl rfl ?_
            obtain ⟨h17, hsp⟩ := z_in hsp
            refine va_iald hx hb hK.1 hP 18 0 rfl rfl h17 dX7_comesIn_246 ?_
            refine lv_iconst (v := 1) hx hb dX7_comesIn_247 (by decide) ?_
            refine lv_iadd hx hb dX7_comesIn_248 ?_
            obtain ⟨h18, hsp⟩ := z_in hsp
            refine va_iast hx hb hK.1 hP hD hS 18 0 rfl rfl h18 dX7_comesIn_249 (fun H locs hP hD hS => ?_)
            obtain ⟨F19, eF19, hsp⟩ := z_lt hsp
            have hP : va_P dD vwCl (zQ cI q g F19) H := by rw [eF19]; exact hP
            have hD : va_D A (zQ cI q g F19) := by rw [eF19]; exact hD
            refine lv_aload_n hx hb dX7_comesIn_250 rfl (lv_at hl 0 rfl) ?_
            refine lv_iload_n hx hb dX7_comesIn_251 rfl (lv_at hl 1 rfl) ?_
            obtain ⟨F20, hc21, hsp⟩ := z_b1 hsp
            refine z_callVv ⟨hx, hb, hml, hown, hts⟩ hK (c_X7_empty l dD cI cA q g F19 (lo1) F20 hc21) (cwV 1 hts gX7_comesIn_X7_empty rfl rfl rfl (by decide +kernel) ⟨Nat.le_of_ble_eq_true rfl, Nat.le_of_ble_eq_true rfl⟩) (zJ.full hP hD hS hA) hS 0 7 rfl rfl rfl rfl hl.1 rfl (Nat.le_of_ble_eq_true rfl) dX7_comesIn_252 ⟨Nat.zero_le _, Nat.zero_le _⟩ (fun H locs hP hD hS => ?_)
            refine lv_iconst (v := 1) hx hb dX7_comesIn_255 (by decide) ?_
            obtain ⟨rfl, rfl⟩ := z_i2 hsp
            exact hret _ _ ls 256 dX7_comesIn_256 rfl hP hD hS
      · have hsp := z_f c4 hsp
        refine lv_aload_n hx hb dX7_comesIn_121 rfl (lv_at hl 0 rfl) ?_
        refine va_get (D := dD) (ci := 7) (v := .ref (q 14)) (C := RX7) (T := TX7) (N := 41) hx hb hts iX7 hown hK.1 hP 0 rfl rfl 14 (by decide) f41 (fun _ h9 => h9) rfl dX7_comesIn_122 ?_
        refine lv_bipush (v := 12) hx hb dX7_comesIn_125 (by decide) ?_
        refine lv_iload_n hx hb dX7_comesIn_127 rfl (lv_at hl 1 rfl) ?_
        refine lv_imul hx hb dX7_comesIn_128 ?_
        refine lv_iload hx hb dX7_comesIn_129 (lv_at hl 5 rfl) ?_
        refine lv_iadd hx hb dX7_comesIn_131 ?_
        obtain ⟨h22, hsp⟩ := z_in hsp
        refine va_iald hx hb hK.1 hP 6 0 rfl rfl h22 dX7_comesIn_132 ?_
        refine lv_iload hx hb dX7_comesIn_133 (lv_at hl 4 rfl) ?_
        refine lv_ishr hx hb dX7_comesIn_135 ?_
        refine z_top (y := (zShr ((F_ 14) (((12 * lo1) + lo7)).toNatClampNeg) lo6)) rfl ?_
        refine lv_iconst (v := 1) hx hb dX7_comesIn_136 (by decide) ?_
        refine lv_iand hx hb dX7_comesIn_137 ?_
        refine lv_if_ne (tgt := 144) hx hb dX7_comesIn_138 (by decide) (fun c23 => ?_) (fun c23 => ?_)
        · have hsp := z_f c23 hsp
          refine lv_aload_n hx hb dX7_comesIn_144 rfl (lv_at hl 0 rfl) ?_
          refine va_get (D := dD) (ci := 7) (v := .ref (q 14)) (C := RX7) (T := TX7) (N := 41) hx hb hts iX7 hown hK.1 hP 0 rfl rfl 14 (by decide) f41 (fun _ h9 => h9) rfl dX7_comesIn_145 ?_
          refine lv_bipush (v := 12) hx hb dX7_comesIn_148 (by decide) ?_
          refine lv_iload_n hx hb dX7_comesIn_150 rfl (lv_at hl 1 rfl) ?_
          refine lv_imul hx hb dX7_comesIn_151 ?_
          refine lv_iload hx hb dX7_comesIn_152 (lv_at hl 5 rfl) ?_
          refine lv_iadd hx hb dX7_comesIn_154 ?_
          refine lv_dup2_11 hx hb dX7_comesIn_155 rfl rfl ?_
          obtain ⟨h24, hsp⟩ := z_in hsp
          refine va_iald hx hb hK.1 hP 6 0 rfl rfl h24 dX7_comesIn_156 ?_
          refine lv_iload hx hb dX7_comesIn_157 (lv_at hl 2 rfl) ?_
          refine lv_ixor hx hb dX7_comesIn_159 ?_
          obtain ⟨h25, hsp⟩ := z_in hsp
          refine va_iast hx hb hK.1 hP hD hS 6 0 rfl rfl h25 dX7_comesIn_160 (fun H locs hP hD hS => ?_)
          obtain ⟨F26, eF26, hsp⟩ := z_lt hsp
          have hP : va_P dD vwCl (zQ cI q g F26) H := by rw [eF26]; exact hP
          have hD : va_D A (zQ cI q g F26) := by rw [eF26]; exact hD
          refine lv_aload_n hx hb dX7_comesIn_161 rfl (lv_at hl 0 rfl) ?_
          refine va_get (D := dD) (ci := 7) (v := .ref (q 15)) (C := RX7) (T := TX7) (N := 41) hx hb hts iX7 hown hK.1 hP 0 rfl rfl 15 (by decide) f44 (fun _ h9 => h9) rfl dX7_comesIn_162 ?_
          refine lv_bipush (v := 12) hx hb dX7_comesIn_165 (by decide) ?_
          refine lv_iload_n hx hb dX7_comesIn_167 rfl (lv_at hl 1 rfl) ?_
          refine lv_imul hx hb dX7_comesIn_168 ?_
          refine lv_iload hx hb dX7_comesIn_169 (lv_at hl 5 rfl) ?_
          refine lv_iadd hx hb dX7_comesIn_171 ?_
          refine lv_dup2_11 hx hb dX7_comesIn_172 rfl rfl ?_
          obtain ⟨h27, hsp⟩ := z_in hsp
          refine va_iald hx hb hK.1 hP 7 0 rfl rfl h27 dX7_comesIn_173 ?_
          refine lv_iload hx hb dX7_comesIn_174 (lv_at hl 3 rfl) ?_
          refine lv_ixor hx hb dX7_comesIn_176 ?_
          obtain ⟨h28, hsp⟩ := z_in hsp
          refine va_iast hx hb hK.1 hP hD hS 7 0 rfl rfl h28 dX7_comesIn_177 (fun H locs hP hD hS => ?_)
          obtain ⟨F29, eF29, hsp⟩ := z_lt hsp
          have hP : va_P dD vwCl (zQ cI q g F29) H := by rw [eF29]; exact hP
          have hD : va_D A (zQ cI q g F29) := by rw [eF29]; exact hD
          obtain ⟨x30, ex30, hsp⟩ := z_lt hsp
          refine lv_iinc (v := x30) (lv' := [(7, .int x30), (0, .ref (q 0)), (1, .int lo1), (4, .int lo4), (5, .int lo5), (6, .int lo6)]) hx hb dX7_comesIn_178 hl (k := 5) rfl (by rw [ex30]; rfl) (by decide) rfl (fun ls hl => ?_)
          refine lv_goto (tgt := 114) hx hb dX7_comesIn_181 (by decide) ?_
          exact ih114 _ _ ls F29 (lo1) (lo4) (lo5) (lo6) (x30) hP hD hS (lv_sub hl [1, 2, 3, 4, 5, 0] rfl) hsp
        · have hsp := z_t c23 hsp
          refine lv_goto (tgt := 178) hx hb dX7_comesIn_141 (by decide) ?_
          obtain ⟨x31, ex31, hsp⟩ := z_lt hsp
          refine lv_iinc (v := x31) (lv' := [(7, .int x31), (0, .ref (q 0)), (1, .int lo1), (4, .int lo4), (5, .int lo5), (6, .int lo6)]) hx hb dX7_comesIn_178 hl (k := 5) rfl (by rw [ex31]; rfl) (by decide) rfl (fun ls hl => ?_)
          refine lv_goto (tgt := 114) hx hb dX7_comesIn_181 (by decide) ?_
          exact ih114 _ _ ls F_ (lo1) (lo4) (lo5) (lo6) (x31) hP hD hS (lv_sub hl [1, 2, 3, 4, 5, 0] rfl) hsp
  have K_95 : ∀ (nf : Nat) (H : Heap) (locs : List Loc) (ls : Array Slot) (F_ : Nat → zF) (lo1 : Int32) (lo4 : Int32) (lo5 : Int32) (lo6 : Int32), va_P dD vwCl (zQ cI q g F_) H → va_D A (zQ cI q g F_) → va_S A s.heap H locs → lv_has ls 8 [(0, .ref (q 0)), (1, .int lo1), (4, .int lo4), (5, .int lo5), (6, .int lo6)] → s_X7_comesIn_b95 g nf F_ lo1 lo4 lo5 lo6 = some (rv, r_F) → W p l e rm_X7_comesIn s m args below meth c H locs 0 0 Q (F0 m 95 ls []) := by
    intro nf
    induction nf with
    | zero =>
      intro H locs ls F_ lo1 lo4 lo5 lo6 hP hD hS hl hsp
      exact absurd (show (none : Option (Int32 × (Nat → zF))) = some (rv, r_F) from hsp) (fun h => by cases h)
    | succ n95 ih95 =>
      intro H locs ls F_ lo1 lo4 lo5 lo6 hP hD hS hl hsp
      rw [s_X7_comesIn_b95] at hsp
      refine lv_iload hx hb dX7_comesIn_95 (lv_at hl 2 rfl) ?_
      refine lv_iload hx hb dX7_comesIn_97 (lv_at hl 4 rfl) ?_
      refine lv_ishr hx hb dX7_comesIn_99 ?_
      refine z_top (y := (zShr lo4 lo6)) rfl ?_
      refine lv_iconst (v := 1) hx hb dX7_comesIn_100 (by decide) ?_
      refine lv_iand hx hb dX7_comesIn_101 ?_
      refine lv_if_ne (tgt := 111) hx hb dX7_comesIn_102 (by decide) (fun c3 => ?_) (fun c3 => ?_)
      · have hsp := z_f c3 hsp
        refine lv_iconst (v := 0) hx hb dX7_comesIn_111 (by decide) ?_
        refine lv_istore (lv' := [(7, .int 0), (0, .ref (q 0)), (1, .int lo1), (4, .int lo4), (5, .int lo5), (6, .int lo6)]) hx hb dX7_comesIn_112 hl (by decide) rfl (fun ls hl => ?_)
        exact K_114 13 _ _ ls F_ (lo1) (lo4) (lo5) (lo6) (0) hP hD hS (lv_sub hl [1, 2, 3, 4, 5, 0] rfl) hsp
      · have hsp := z_t c3 hsp
        obtain ⟨x32, ex32, hsp⟩ := z_lt hsp
        refine lv_iinc (v := x32) (lv' := [(6, .int x32), (0, .ref (q 0)), (1, .int lo1), (4, .int lo4), (5, .int lo5)]) hx hb dX7_comesIn_105 hl (k := 4) rfl (by rw [ex32]; rfl) (by decide) rfl (fun ls hl => ?_)
        refine lv_goto (tgt := 95) hx hb dX7_comesIn_108 (by decide) ?_
        exact ih95 _ _ ls F_ (lo1) (lo4) (lo5) (x32) hP hD hS (lv_sub hl [1, 2, 3, 4, 0] rfl) hsp
  have K_9 : ∀ (nf : Nat) (H : Heap) (locs : List Loc) (ls : Array Slot) (F_ : Nat → zF) (lo1 : Int32) (lo4 : Int32) (lo5 : Int32) (lo6 : Int32), va_P dD vwCl (zQ cI q g F_) H → va_D A (zQ cI q g F_) → va_S A s.heap H locs → lv_has ls 8 [(0, .ref (q 0)), (1, .int lo1), (4, .int lo4), (5, .int lo5), (6, .int lo6)] → s_X7_comesIn_b9 g nf F_ lo1 lo4 lo5 lo6 = some (rv, r_F) → W p l e rm_X7_comesIn s m args below meth c H locs 0 0 Q (F0 m 9 ls []) := by
    intro nf
    induction nf with
    | zero =>
      intro H locs ls F_ lo1 lo4 lo5 lo6 hP hD hS hl hsp
      exact absurd (show (none : Option (Int32 × (Nat → zF))) = some (rv, r_F) from hsp) (fun h => by cases h)
    | succ n9 ih9 =>
      intro H locs ls F_ lo1 lo4 lo5 lo6 hP hD hS hl hsp
      rw [s_X7_comesIn_b9] at hsp
      refine lv_iload hx hb dX7_comesIn_9 (lv_at hl 4 rfl) ?_
      refine lv_bipush (v := 12) hx hb dX7_comesIn_11 (by decide) ?_
      refine lv_icmp_ge (tgt := 84) hx hb dX7_comesIn_13 (by decide) (fun c1 => ?_) (fun c1 => ?_)
      · have hsp := z_t c1 hsp
        refine lv_iload hx hb dX7_comesIn_84 (lv_at hl 2 rfl) ?_
        refine lv_if_ne (tgt := 91) hx hb dX7_comesIn_86 (by decide) (fun c2 => ?_) (fun c2 => ?_)
        · have hsp := z_f c2 hsp
          refine lv_bipush (v := 11) hx hb dX7_comesIn_91 (by decide) ?_
          refine lv_istore (lv' := [(6, .int 11), (0, .ref (q 0)), (1, .int lo1), (4, .int lo4), (5, .int lo5)]) hx hb dX7_comesIn_93 hl (by decide) rfl (fun ls hl => ?_)
          exact K_95 13 _ _ ls F_ (lo1) (lo4) (lo5) (11) hP hD hS (lv_sub hl [1, 2, 3, 4, 0] rfl) hsp
        · have hsp := z_t c2 hsp
          refine lv_iconst (v := 0) hx hb dX7_comesIn_89 (by decide) ?_
          obtain ⟨rfl, rfl⟩ := z_i2 hsp
          exact hret _ _ ls 90 dX7_comesIn_90 rfl hP hD hS
      · have hsp := z_f c1 hsp
        refine lv_aload_n hx hb dX7_comesIn_16 rfl (lv_at hl 0 rfl) ?_
        refine va_get (D := dD) (ci := 7) (v := .ref (q 14)) (C := RX7) (T := TX7) (N := 41) hx hb hts iX7 hown hK.1 hP 0 rfl rfl 14 (by decide) f41 (fun _ h9 => h9) rfl dX7_comesIn_17 ?_
        refine lv_bipush (v := 12) hx hb dX7_comesIn_20 (by decide) ?_
        refine lv_iload_n hx hb dX7_comesIn_22 rfl (lv_at hl 1 rfl) ?_
        refine lv_imul hx hb dX7_comesIn_23 ?_
        refine lv_iload hx hb dX7_comesIn_24 (lv_at hl 4 rfl) ?_
        refine lv_iadd hx hb dX7_comesIn_26 ?_
        obtain ⟨h33, hsp⟩ := z_in hsp
        refine va_iald hx hb hK.1 hP 6 0 rfl rfl h33 dX7_comesIn_27 ?_
        refine lv_if_eq (tgt := 78) hx hb dX7_comesIn_28 (by decide) (fun c34 => ?_) (fun c34 => ?_)
        · have hsp := z_t c34 hsp
          obtain ⟨x35, ex35, hsp⟩ := z_lt hsp
          refine lv_iinc (v := x35) (lv' := [(6, .int x35), (0, .ref (q 0)), (1, .int lo1), (4, .int lo4), (5, .int lo5)]) hx hb dX7_comesIn_78 hl (k := 4) rfl (by rw [ex35]; rfl) (by decide) rfl (fun ls hl => ?_)
          refine lv_goto (tgt := 9) hx hb dX7_comesIn_81 (by decide) ?_
          exact ih9 _ _ ls F_ (lo1) (lo4) (lo5) (x35) hP hD hS (lv_sub hl [1, 2, 3, 4, 0] rfl) hsp
        · have hsp := z_f c34 hsp
          refine lv_iload hx hb dX7_comesIn_31 (lv_at hl 2 rfl) ?_
          refine lv_iload hx hb dX7_comesIn_33 (lv_at hl 4 rfl) ?_
          refine lv_ishr hx hb dX7_comesIn_35 ?_
          refine z_top (y := (zShr lo4 lo6)) rfl ?_
          refine lv_iconst (v := 1) hx hb dX7_comesIn_36 (by decide) ?_
          refine lv_iand hx hb dX7_comesIn_37 ?_
          refine lv_if_ne (tgt := 44) hx hb dX7_comesIn_38 (by decide) (fun c36 => ?_) (fun c36 => ?_)
          · have hsp := z_f c36 hsp
            refine lv_iload hx hb dX7_comesIn_44 (lv_at hl 2 rfl) ?_
            refine lv_aload_n hx hb dX7_comesIn_46 rfl (lv_at hl 0 rfl) ?_
            refine va_get (D := dD) (ci := 7) (v := .ref (q 14)) (C := RX7) (T := TX7) (N := 41) hx hb hts iX7 hown hK.1 hP 0 rfl rfl 14 (by decide) f41 (fun _ h9 => h9) rfl dX7_comesIn_47 ?_
            refine lv_bipush (v := 12) hx hb dX7_comesIn_50 (by decide) ?_
            refine lv_iload_n hx hb dX7_comesIn_52 rfl (lv_at hl 1 rfl) ?_
            refine lv_imul hx hb dX7_comesIn_53 ?_
            refine lv_iload hx hb dX7_comesIn_54 (lv_at hl 4 rfl) ?_
            refine lv_iadd hx hb dX7_comesIn_56 ?_
            obtain ⟨h37, hsp⟩ := z_in hsp
            refine va_iald hx hb hK.1 hP 6 0 rfl rfl h37 dX7_comesIn_57 ?_
            refine lv_ixor hx hb dX7_comesIn_58 ?_
            obtain ⟨x38, ex38, hsp⟩ := z_lt hsp
            refine z_top ex38 ?_
            refine lv_istore (lv' := [(4, .int x38), (0, .ref (q 0)), (1, .int lo1), (5, .int lo5), (6, .int lo6)]) hx hb dX7_comesIn_59 hl (by decide) rfl (fun ls hl => ?_)
            refine lv_iload hx hb dX7_comesIn_61 (lv_at hl 3 rfl) ?_
            refine lv_aload_n hx hb dX7_comesIn_63 rfl (lv_at hl 1 rfl) ?_
            refine va_get (D := dD) (ci := 7) (v := .ref (q 15)) (C := RX7) (T := TX7) (N := 41) hx hb hts iX7 hown hK.1 hP 0 rfl rfl 15 (by decide) f44 (fun _ h9 => h9) rfl dX7_comesIn_64 ?_
            refine lv_bipush (v := 12) hx hb dX7_comesIn_67 (by decide) ?_
            refine lv_iload_n hx hb dX7_comesIn_69 rfl (lv_at hl 2 rfl) ?_
            refine lv_imul hx hb dX7_comesIn_70 ?_
            refine lv_iload hx hb dX7_comesIn_71 (lv_at hl 4 rfl) ?_
            refine lv_iadd hx hb dX7_comesIn_73 ?_
            obtain ⟨h39, hsp⟩ := z_in hsp
            refine va_iald hx hb hK.1 hP 7 0 rfl rfl h39 dX7_comesIn_74 ?_
            refine lv_ixor hx hb dX7_comesIn_75 ?_
            obtain ⟨x40, ex40, hsp⟩ := z_lt hsp
            refine z_top ex40 ?_
            refine lv_istore (lv' := [(5, .int x40), (4, .int x38), (0, .ref (q 0)), (1, .int lo1), (6, .int lo6)]) hx hb dX7_comesIn_76 hl (by decide) rfl (fun ls hl => ?_)
            obtain ⟨x41, ex41, hsp⟩ := z_lt hsp
            refine lv_iinc (v := x41) (lv' := [(6, .int x41), (5, .int x40), (4, .int x38), (0, .ref (q 0)), (1, .int lo1)]) hx hb dX7_comesIn_78 hl (k := 4) rfl (by rw [ex41]; rfl) (by decide) rfl (fun ls hl => ?_)
            refine lv_goto (tgt := 9) hx hb dX7_comesIn_81 (by decide) ?_
            exact ih9 _ _ ls F_ (lo1) (x38) (x40) (x41) hP hD hS (lv_sub hl [3, 4, 2, 1, 0] rfl) hsp
          · have hsp := z_t c36 hsp
            refine lv_goto (tgt := 78) hx hb dX7_comesIn_41 (by decide) ?_
            obtain ⟨x42, ex42, hsp⟩ := z_lt hsp
            refine lv_iinc (v := x42) (lv' := [(6, .int x42), (0, .ref (q 0)), (1, .int lo1), (4, .int lo4), (5, .int lo5)]) hx hb dX7_comesIn_78 hl (k := 4) rfl (by rw [ex42]; rfl) (by decide) rfl (fun ls hl => ?_)
            refine lv_goto (tgt := 9) hx hb dX7_comesIn_81 (by decide) ?_
            exact ih9 _ _ ls F_ (lo1) (lo4) (lo5) (x42) hP hD hS (lv_sub hl [1, 2, 3, 4, 0] rfl) hsp
  unfold s_X7_comesIn at hsp
  refine lv_iload_n hx hb dX7_comesIn_0 rfl (lv_at hl 2 rfl) ?_
  refine lv_istore (lv' := [(4, .int p2), (0, .ref (q 0)), (1, .int p1), (2, .int p2), (3, .int p3)]) hx hb dX7_comesIn_1 hl (by decide) rfl (fun ls hl => ?_)
  refine lv_iload_n hx hb dX7_comesIn_3 rfl (lv_at hl 4 rfl) ?_
  refine lv_istore (lv' := [(5, .int p3), (4, .int p2), (0, .ref (q 0)), (1, .int p1), (2, .int p2), (3, .int p3)]) hx hb dX7_comesIn_4 hl (by decide) rfl (fun ls hl => ?_)
  refine lv_iconst (v := 0) hx hb dX7_comesIn_6 (by decide) ?_
  refine lv_istore (lv' := [(6, .int 0), (5, .int p3), (4, .int p2), (0, .ref (q 0)), (1, .int p1), (2, .int p2), (3, .int p3)]) hx hb dX7_comesIn_7 hl (by decide) rfl (fun ls hl => ?_)
  exact K_9 13 _ _ ls F (p1) (p2) (p3) (0) hP hD hS (lv_sub hl [3, 4, 2, 1, 0] rfl) hsp
def s_X7_stir (g : zF) (F : Nat → zF) (p1 : Int32) : Option ((zF) × (Nat → zF)) := if p1 < 0 ∨ 12 ≤ (p1).toNatClampNeg then none else (if (g 2) < ((F 17) (p1).toNatClampNeg) then if p1 < 0 ∨ 12 ≤ (p1).toNatClampNeg then none else zl (zu F 17 (p1).toNatClampNeg ((g 2))) fun (F4 : Nat → zF) => zb2 (s_X7_begin g F4 (p1) (((g 6) + 1))) fun (g5 : zF) (F6 : Nat → zF) => some (g5, F6) else some (g, F))
abbrev rm_X7_stir : Room := { frames := 2, cells := 0, slots := 0, locals := 43 }
set_option maxHeartbeats 4000000 in
set_option maxRecDepth 100000 in
theorem c_X7_stir (l : Launch) (dD : va_G) (cI cA : ClassId) (q : Nat → Nat) (g : zF) (F : Nat → zF) (p1 : Int32) (r_g : zF) (r_F : Nat → zF) (hsp : s_X7_stir g F p1 = some (r_g, r_F)) : zMv l yX7_stir wsX7_stir rm_X7_stir dD cI cA [.ref (q 0), .int p1] (zQ cI q g F) (zQ cI q r_g r_F) := by
  refine zMv_of (cc := cX7_stir) (maxL := 2) (by decide) rfl (Nat.le_of_ble_eq_true rfl) ?_
  intro p e s m args below meth c A Q ls hx hb hml hown hts hK hA hP hD hl hret
  have hown : s.vm.findClass RX7 = some m.cls := hown
  have iX7 : ∀ w ∈ wsX70, w ∈ wsX7_stir := by decide +kernel
  have f50 := hts (.fieldLink RX7 50 "MeshFieldModel" "span" "[I") (by decide +kernel)
  have f16 := hts (.fieldLink RX7 16 "MeshFieldModel" "low" "I") (by decide +kernel)
  have f131 := hts (.fieldLink RX7 131 "MeshFieldModel" "tick" "I") (by decide +kernel)
  have hS : va_S A s.heap s.heap [] := va_S.rf
  have hl : lv_has ls 2 [(0, .ref (q 0)), (1, .int p1)] := hl
  unfold s_X7_stir at hsp
  refine lv_aload_n hx hb dX7_stir_0 rfl (lv_at hl 0 rfl) ?_
  refine va_get (D := dD) (ci := 7) (v := .ref (q 17)) (C := RX7) (T := TX7) (N := 41) hx hb hts iX7 hown hK.1 hP 0 rfl rfl 17 (by decide) f50 (fun _ h9 => h9) rfl dX7_stir_1 ?_
  refine lv_iload_n hx hb dX7_stir_4 rfl (lv_at hl 1 rfl) ?_
  obtain ⟨h1, hsp⟩ := z_in hsp
  refine va_iald hx hb hK.1 hP 9 0 rfl rfl h1 dX7_stir_5 ?_
  refine lv_aload_n hx hb dX7_stir_6 rfl (lv_at hl 0 rfl) ?_
  refine va_get (D := dD) (ci := 7) (v := .int (g 2)) (C := RX7) (T := TX7) (N := 41) hx hb hts iX7 hown hK.1 hP 0 rfl rfl 2 (by decide) f16 (fun _ h9 => h9) rfl dX7_stir_7 ?_
  refine lv_icmp_gt (tgt := 14) hx hb dX7_stir_10 (by decide) (fun c2 => ?_) (fun c2 => ?_)
  · have hsp := z_t c2 hsp
    refine lv_aload_n hx hb dX7_stir_14 rfl (lv_at hl 0 rfl) ?_
    refine va_get (D := dD) (ci := 7) (v := .ref (q 17)) (C := RX7) (T := TX7) (N := 41) hx hb hts iX7 hown hK.1 hP 0 rfl rfl 17 (by decide) f50 (fun _ h9 => h9) rfl dX7_stir_15 ?_
    refine lv_iload_n hx hb dX7_stir_18 rfl (lv_at hl 1 rfl) ?_
    refine lv_aload_n hx hb dX7_stir_19 rfl (lv_at hl 0 rfl) ?_
    refine va_get (D := dD) (ci := 7) (v := .int (g 2)) (C := RX7) (T := TX7) (N := 41) hx hb hts iX7 hown hK.1 hP 0 rfl rfl 2 (by decide) f16 (fun _ h9 => h9) rfl dX7_stir_20 ?_
    obtain ⟨h3, hsp⟩ := z_in hsp
    refine va_iast hx hb hK.1 hP hD hS 9 0 rfl rfl h3 dX7_stir_23 (fun H locs hP hD hS => ?_)
    obtain ⟨F4, eF4, hsp⟩ := z_lt hsp
    have hP : va_P dD vwCl (zQ cI q g F4) H := by rw [eF4]; exact hP
    have hD : va_D A (zQ cI q g F4) := by rw [eF4]; exact hD
    refine lv_aload_n hx hb dX7_stir_24 rfl (lv_at hl 0 rfl) ?_
    refine lv_iload_n hx hb dX7_stir_25 rfl (lv_at hl 1 rfl) ?_
    refine lv_aload_n hx hb dX7_stir_26 rfl (lv_at hl 0 rfl) ?_
    refine va_get (D := dD) (ci := 7) (v := .int (g 6)) (C := RX7) (T := TX7) (N := 41) hx hb hts iX7 hown hK.1 hP 0 rfl rfl 6 (by decide) f131 (fun _ h9 => h9) rfl dX7_stir_27 ?_
    refine lv_iconst (v := 1) hx hb dX7_stir_30 (by decide) ?_
    refine lv_iadd hx hb dX7_stir_31 ?_
    obtain ⟨g5, F6, hc7, hsp⟩ := z_b2 hsp
    refine z_callVv ⟨hx, hb, hml, hown, hts⟩ hK (c_X7_begin l dD cI cA q g F4 (p1) (((g 6) + 1)) g5 F6 hc7) (cwV 2 hts gX7_stir_X7_begin rfl rfl rfl (by decide +kernel) ⟨Nat.le_of_ble_eq_true rfl, Nat.le_of_ble_eq_true rfl⟩) (zJ.full hP hD hS hA) hS 0 7 rfl rfl rfl rfl hl.1 rfl (Nat.le_of_ble_eq_true rfl) dX7_stir_32 ⟨Nat.zero_le _, Nat.zero_le _⟩ (fun H locs hP hD hS => ?_)
    obtain ⟨rfl, rfl⟩ := z_i2 hsp
    exact hret _ _ ls 35 dX7_stir_35 hP hD hS
  · have hsp := z_f c2 hsp
    obtain ⟨rfl, rfl⟩ := z_i2 hsp
    exact hret _ _ ls 13 dX7_stir_13 hP hD hS
def s_X7_load_b59  : Nat → (zF) → (Nat → zF) → (Int32) → (Int32) → Option (Int32 × (zF) × (Nat → zF))
  | 0, _, _, _, _ => none
  | n59 + 1, g_, F_, lo1, lo3 => (if (g_ 8) ≤ lo3 then zb1 (s_X7_sumOf g_ F_ (lo1)) fun (v16 : Int32) => if lo1 < 0 ∨ 12 ≤ (lo1).toNatClampNeg then none else zl (zu F_ 13 (lo1).toNatClampNeg (v16)) fun (F19 : Nat → zF) => zl (va_up g_ 8 (0)) fun (g20 : zF) => zb2 (s_X7_stir g20 F19 (lo1)) fun (g21 : zF) (F22 : Nat → zF) => if lo1 < 0 ∨ 12 ≤ (lo1).toNatClampNeg then none else some (((F22 12) (lo1).toNatClampNeg), g21, F22) else if ((12 * lo1) + lo3) < 0 ∨ 144 ≤ (((12 * lo1) + lo3)).toNatClampNeg then none else zl (zu F_ 14 (((12 * lo1) + lo3)).toNatClampNeg ((zShl 1 lo3))) fun (F26 : Nat → zF) => if lo3 < 0 ∨ 12 ≤ (lo3).toNatClampNeg then none else if ((12 * lo1) + lo3) < 0 ∨ 144 ≤ (((12 * lo1) + lo3)).toNatClampNeg then none else zl (zu F26 15 (((12 * lo1) + lo3)).toNatClampNeg (((F26 9) (lo3).toNatClampNeg))) fun (F29 : Nat → zF) => zl (lo3 + 1) fun (x30 : Int32) => (s_X7_load_b59  n59 g_ F29 (lo1) (x30)))
def s_X7_load (g : zF) (F : Nat → zF) (p1 : Int32) (p2 : Int32) : Option (Int32 × (zF) × (Nat → zF)) := zb1 (s_X7_isMachine g F (p1)) fun (v1 : Int32) => (if v1 = 0 then some ((-1), g, F) else (if (g 8) = 0 then some ((-1), g, F) else if p1 < 0 ∨ 12 ≤ (p1).toNatClampNeg then none else zb1 (s_X7_isIn (p2) ((((F 11) (p1).toNatClampNeg) + 1)) (9999)) fun (v6 : Int32) => (if v6 = 0 then some ((-1), g, F) else if p1 < 0 ∨ 12 ≤ (p1).toNatClampNeg then none else zl (zu F 11 (p1).toNatClampNeg (p2)) fun (F10 : Nat → zF) => if p1 < 0 ∨ 12 ≤ (p1).toNatClampNeg then none else zl (zu F10 12 (p1).toNatClampNeg ((g 8))) fun (F12 : Nat → zF) => zb1 (s_X7_empty g F12 (p1)) fun (F13 : Nat → zF) => (s_X7_load_b59  13 g F13 (p1) (0)))))
abbrev rm_X7_load : Room := { frames := 3, cells := 0, slots := 0, locals := 64 }
set_option maxHeartbeats 4000000 in
set_option maxRecDepth 100000 in
theorem c_X7_load (l : Launch) (dD : va_G) (cI cA : ClassId) (q : Nat → Nat) (g : zF) (F : Nat → zF) (p1 : Int32) (p2 : Int32) (rv : Int32) (r_g : zF) (r_F : Nat → zF) (hsp : s_X7_load g F p1 p2 = some (rv, r_g, r_F)) : zMi l yX7_load wsX7_load rm_X7_load dD cI cA [.ref (q 0), .int p1, .int p2] (zQ cI q g F) (zQ cI q r_g r_F) rv := by
  refine zMi_of (cc := cX7_load) (maxL := 4) (by decide) rfl (Nat.le_of_ble_eq_true rfl) ?_
  intro p e s m args below meth c A Q ls hx hb hml hown hts hK hA hP hD hl hret
  have hown : s.vm.findClass RX7 = some m.cls := hown
  have iX7 : ∀ w ∈ wsX70, w ∈ wsX7_load := by decide +kernel
  have f142 := hts (.fieldLink RX7 142 "MeshFieldModel" "pieces" "I") (by decide +kernel)
  have f32 := hts (.fieldLink RX7 32 "MeshFieldModel" "number" "[I") (by decide +kernel)
  have f35 := hts (.fieldLink RX7 35 "MeshFieldModel" "many" "[I") (by decide +kernel)
  have f38 := hts (.fieldLink RX7 38 "MeshFieldModel" "sum" "[I") (by decide +kernel)
  have f41 := hts (.fieldLink RX7 41 "MeshFieldModel" "mask" "[I") (by decide +kernel)
  have f44 := hts (.fieldLink RX7 44 "MeshFieldModel" "data" "[I") (by decide +kernel)
  have f25 := hts (.fieldLink RX7 25 "MeshFieldModel" "told" "[I") (by decide +kernel)
  have hS : va_S A s.heap s.heap [] := va_S.rf
  have hl : lv_has ls 4 [(0, .ref (q 0)), (1, .int p1), (2, .int p2)] := hl
  have K_59 : ∀ (nf : Nat) (H : Heap) (locs : List Loc) (ls : Array Slot) (g_ : zF) (F_ : Nat → zF) (lo1 : Int32) (lo3 : Int32), va_P dD vwCl (zQ cI q g_ F_) H → va_D A (zQ cI q g_ F_) → va_S A s.heap H locs → lv_has ls 4 [(0, .ref (q 0)), (1, .int lo1), (3, .int lo3)] → s_X7_load_b59  nf g_ F_ lo1 lo3 = some (rv, r_g, r_F) → W p l e rm_X7_load s m args below meth c H locs 0 0 Q (F0 m 59 ls []) := by
    intro nf
    induction nf with
    | zero =>
      intro H locs ls g_ F_ lo1 lo3 hP hD hS hl hsp
      exact absurd (show (none : Option (Int32 × (zF) × (Nat → zF))) = some (rv, r_g, r_F) from hsp) (fun h => by cases h)
    | succ n59 ih59 =>
      intro H locs ls g_ F_ lo1 lo3 hP hD hS hl hsp
      rw [s_X7_load_b59] at hsp
      refine lv_iload_n hx hb dX7_load_59 rfl (lv_at hl 2 rfl) ?_
      refine lv_aload_n hx hb dX7_load_60 rfl (lv_at hl 0 rfl) ?_
      refine va_get (D := dD) (ci := 7) (v := .int (g_ 8)) (C := RX7) (T := TX7) (N := 41) hx hb hts iX7 hown hK.1 hP 0 rfl rfl 8 (by decide) f142 (fun _ h9 => h9) rfl dX7_load_61 ?_
      refine lv_icmp_ge (tgt := 104) hx hb dX7_load_64 (by decide) (fun c15 => ?_) (fun c15 => ?_)
      · have hsp := z_t c15 hsp
        refine lv_aload_n hx hb dX7_load_104 rfl (lv_at hl 0 rfl) ?_
        refine va_get (D := dD) (ci := 7) (v := .ref (q 13)) (C := RX7) (T := TX7) (N := 41) hx hb hts iX7 hown hK.1 hP 0 rfl rfl 13 (by decide) f38 (fun _ h9 => h9) rfl dX7_load_105 ?_
        refine lv_iload_n hx hb dX7_load_108 rfl (lv_at hl 1 rfl) ?_
        refine lv_aload_n hx hb dX7_load_109 rfl (lv_at hl 0 rfl) ?_
        refine lv_iload_n hx hb dX7_load_110 rfl (lv_at hl 1 rfl) ?_
        obtain ⟨v16, hc17, hsp⟩ := z_b1 hsp
        refine z_callVi ⟨hx, hb, hml, hown, hts⟩ hK (c_X7_sumOf l dD cI cA q g_ F_ (lo1) v16 hc17) (cwV 1 hts gX7_load_X7_sumOf rfl rfl rfl (by decide +kernel) ⟨Nat.le_of_ble_eq_true rfl, Nat.le_of_ble_eq_true rfl⟩) (zJ.full hP hD hS hA) hS 0 7 rfl rfl rfl rfl hl.1 rfl (Nat.le_of_ble_eq_true rfl) dX7_load_111 ⟨Nat.zero_le _, Nat.zero_le _⟩ (fun H locs hP hD hS => ?_)
        obtain ⟨h18, hsp⟩ := z_in hsp
        refine va_iast hx hb hK.1 hP hD hS 5 0 rfl rfl h18 dX7_load_114 (fun H locs hP hD hS => ?_)
        obtain ⟨F19, eF19, hsp⟩ := z_lt hsp
        have hP : va_P dD vwCl (zQ cI q g_ F19) H := by rw [eF19]; exact hP
        have hD : va_D A (zQ cI q g_ F19) := by rw [eF19]; exact hD
        refine lv_aload_n hx hb dX7_load_115 rfl (lv_at hl 0 rfl) ?_
        refine lv_iconst (v := 0) hx hb dX7_load_116 (by decide) ?_
        refine va_put (D := dD) (ci := 7) (v := .int 0) (ty := .int) (C := RX7) (T := TX7) (N := 41) hx hb hts iX7 tyX7 tyX7_ok nmX7 hown hK.1 hP hD hS 0 rfl rfl 8 (by decide) f142 (fun _ h9 => h9) rfl (by decide +kernel) rfl rfl (Nat.le_of_ble_eq_true rfl) dX7_load_117 (fun H locs hP hD hS => ?_)
        obtain ⟨g20, eg20, hsp⟩ := z_lt hsp
        have hP : va_P dD vwCl (zQ cI q g20 F19) H := by rw [eg20]; exact hP
        have hD : va_D A (zQ cI q g20 F19) := by rw [eg20]; exact hD
        refine lv_aload_n hx hb dX7_load_120 rfl (lv_at hl 0 rfl) ?_
        refine lv_iload_n hx hb dX7_load_121 rfl (lv_at hl 1 rfl) ?_
        obtain ⟨g21, F22, hc23, hsp⟩ := z_b2 hsp
        refine z_callVv ⟨hx, hb, hml, hown, hts⟩ hK (c_X7_stir l dD cI cA q g20 F19 (lo1) g21 F22 hc23) (cwV 1 hts gX7_load_X7_stir rfl rfl rfl (by decide +kernel) ⟨Nat.le_of_ble_eq_true rfl, Nat.le_of_ble_eq_true rfl⟩) (zJ.full hP hD hS hA) hS 0 7 rfl rfl rfl rfl hl.1 rfl (Nat.le_of_ble_eq_true rfl) dX7_load_122 ⟨Nat.zero_le _, Nat.zero_le _⟩ (fun H locs hP hD hS => ?_)
        refine lv_aload_n hx hb dX7_load_125 rfl (lv_at hl 0 rfl) ?_
        refine va_get (D := dD) (ci := 7) (v := .ref (q 12)) (C := RX7) (T := TX7) (N := 41) hx hb hts iX7 hown hK.1 hP 0 rfl rfl 12 (by decide) f35 (fun _ h9 => h9) rfl dX7_load_126 ?_
        refine lv_iload_n hx hb dX7_load_129 rfl (lv_at hl 1 rfl) ?_
        obtain ⟨h24, hsp⟩ := z_in hsp
        refine va_iald hx hb hK.1 hP 4 0 rfl rfl h24 dX7_load_130 ?_
        obtain ⟨rfl, rfl, rfl⟩ := z_i3 hsp
        exact hret _ _ ls 131 dX7_load_131 rfl hP hD hS
      · have hsp := z_f c15 hsp
        refine lv_aload_n hx hb dX7_load_67 rfl (lv_at hl 0 rfl) ?_
        refine va_get (D := dD) (ci := 7) (v := .ref (q 14)) (C := RX7) (T := TX7) (N := 41) hx hb hts iX7 hown hK.1 hP 0 rfl rfl 14 (by decide) f41 (fun _ h9 => h9) rfl dX7_load_68 ?_
        refine lv_bipush (v := 12) hx hb dX7_load_71 (by decide) ?_
        refine lv_iload_n hx hb dX7_load_73 rfl (lv_at hl 1 rfl) ?_
        refine lv_imul hx hb dX7_load_74 ?_
        refine lv_iload_n hx hb dX7_load_75 rfl (lv_at hl 2 rfl) ?_
        refine lv_iadd hx hb dX7_load_76 ?_
        refine lv_iconst (v := 1) hx hb dX7_load_77 (by decide) ?_
        refine lv_iload_n hx hb dX7_load_78 rfl (lv_at hl 2 rfl) ?_
        refine lv_ishl hx hb dX7_load_79 ?_
        refine z_top (y := (zShl 1 lo3)) rfl ?_
        obtain ⟨h25, hsp⟩ := z_in hsp
        refine va_iast hx hb hK.1 hP hD hS 6 0 rfl rfl h25 dX7_load_80 (fun H locs hP hD hS => ?_)
        obtain ⟨F26, eF26, hsp⟩ := z_lt hsp
        have hP : va_P dD vwCl (zQ cI q g_ F26) H := by rw [eF26]; exact hP
        have hD : va_D A (zQ cI q g_ F26) := by rw [eF26]; exact hD
        refine lv_aload_n hx hb dX7_load_81 rfl (lv_at hl 0 rfl) ?_
        refine va_get (D := dD) (ci := 7) (v := .ref (q 15)) (C := RX7) (T := TX7) (N := 41) hx hb hts iX7 hown hK.1 hP 0 rfl rfl 15 (by decide) f44 (fun _ h9 => h9) rfl dX7_load_82 ?_
        refine lv_bipush (v := 12) hx hb dX7_load_85 (by decide) ?_
        refine lv_iload_n hx hb dX7_load_87 rfl (lv_at hl 1 rfl) ?_
        refine lv_imul hx hb dX7_load_88 ?_
        refine lv_iload_n hx hb dX7_load_89 rfl (lv_at hl 2 rfl) ?_
        refine lv_iadd hx hb dX7_load_90 ?_
        refine lv_aload_n hx hb dX7_load_91 rfl (lv_at hl 0 rfl) ?_
        refine va_get (D := dD) (ci := 7) (v := .ref (q 9)) (C := RX7) (T := TX7) (N := 41) hx hb hts iX7 hown hK.1 hP 0 rfl rfl 9 (by decide) f25 (fun _ h9 => h9) rfl dX7_load_92 ?_
        refine lv_iload_n hx hb dX7_load_95 rfl (lv_at hl 2 rfl) ?_
        obtain ⟨h27, hsp⟩ := z_in hsp
        refine va_iald hx hb hK.1 hP 1 0 rfl rfl h27 dX7_load_96 ?_
        obtain ⟨h28, hsp⟩ := z_in hsp
        refine va_iast hx hb hK.1 hP hD hS 7 0 rfl rfl h28 dX7_load_97 (fun H locs hP hD hS => ?_)
        obtain ⟨F29, eF29, hsp⟩ := z_lt hsp
        have hP : va_P dD vwCl (zQ cI q g_ F29) H := by rw [eF29]; exact hP
        have hD : va_D A (zQ cI q g_ F29) := by rw [eF29]; exact hD
        obtain ⟨x30, ex30, hsp⟩ := z_lt hsp
        refine lv_iinc (v := x30) (lv' := [(3, .int x30), (0, .ref (q 0)), (1, .int lo1)]) hx hb dX7_load_98 hl (k := 2) rfl (by rw [ex30]; rfl) (by decide) rfl (fun ls hl => ?_)
        refine lv_goto (tgt := 59) hx hb dX7_load_101 (by decide) ?_
        exact ih59 _ _ ls g_ F29 (lo1) (x30) hP hD hS (lv_sub hl [1, 2, 0] rfl) hsp
  unfold s_X7_load at hsp
  refine lv_aload_n hx hb dX7_load_0 rfl (lv_at hl 0 rfl) ?_
  refine lv_iload_n hx hb dX7_load_1 rfl (lv_at hl 1 rfl) ?_
  obtain ⟨v1, hc2, hsp⟩ := z_b1 hsp
  refine z_callVi ⟨hx, hb, hml, hown, hts⟩ hK (c_X7_isMachine l dD cI cA q g F (p1) v1 hc2) (cwV 1 hts gX7_load_X7_isMachine rfl rfl rfl (by decide +kernel) ⟨Nat.le_of_ble_eq_true rfl, Nat.le_of_ble_eq_true rfl⟩) (zJ.full hP hD hS hA) hS 0 7 rfl rfl rfl rfl hl.1 rfl (Nat.le_of_ble_eq_true rfl) dX7_load_2 ⟨Nat.zero_le _, Nat.zero_le _⟩ (fun H locs hP hD hS => ?_)
  refine lv_if_eq (tgt := 33) hx hb dX7_load_5 (by decide) (fun c3 => ?_) (fun c3 => ?_)
  · have hsp := z_t c3 hsp
    refine lv_iconst (v := (-1)) hx hb dX7_load_33 (by decide) ?_
    obtain ⟨rfl, rfl, rfl⟩ := z_i3 hsp
    exact hret _ _ ls 34 dX7_load_34 rfl hP hD hS
  · have hsp := z_f c3 hsp
    refine lv_aload_n hx hb dX7_load_8 rfl (lv_at hl 0 rfl) ?_
    refine va_get (D := dD) (ci := 7) (v := .int (g 8)) (C := RX7) (T := TX7) (N := 41) hx hb hts iX7 hown hK.1 hP 0 rfl rfl 8 (by decide) f142 (fun _ h9 => h9) rfl dX7_load_9 ?_
    refine lv_if_eq (tgt := 33) hx hb dX7_load_12 (by decide) (fun c4 => ?_) (fun c4 => ?_)
    · have hsp := z_t c4 hsp
      refine lv_iconst (v := (-1)) hx hb dX7_load_33 (by decide) ?_
      obtain ⟨rfl, rfl, rfl⟩ := z_i3 hsp
      exact hret _ _ ls 34 dX7_load_34 rfl hP hD hS
    · have hsp := z_f c4 hsp
      refine lv_iload_n hx hb dX7_load_15 rfl (lv_at hl 2 rfl) ?_
      refine lv_aload_n hx hb dX7_load_16 rfl (lv_at hl 0 rfl) ?_
      refine va_get (D := dD) (ci := 7) (v := .ref (q 11)) (C := RX7) (T := TX7) (N := 41) hx hb hts iX7 hown hK.1 hP 0 rfl rfl 11 (by decide) f32 (fun _ h9 => h9) rfl dX7_load_17 ?_
      refine lv_iload_n hx hb dX7_load_20 rfl (lv_at hl 1 rfl) ?_
      obtain ⟨h5, hsp⟩ := z_in hsp
      refine va_iald hx hb hK.1 hP 3 0 rfl rfl h5 dX7_load_21 ?_
      refine lv_iconst (v := 1) hx hb dX7_load_22 (by decide) ?_
      refine lv_iadd hx hb dX7_load_23 ?_
      refine lv_sipush (v := 9999) hx hb dX7_load_24 (by decide) ?_
      obtain ⟨v6, hc7, hsp⟩ := z_b1 hsp
      refine z_callSi ⟨hx, hb, hml, hown, hts⟩ hK (c_X7_isIn l dD cI cA (p2) ((((F 11) (p1).toNatClampNeg) + 1)) (9999) v6 hc7) (va_cwS 3 hts gX7_load_X7_isIn rfl rfl rfl (by decide +kernel) ⟨Nat.le_of_ble_eq_true rfl, Nat.le_of_ble_eq_true rfl⟩) (zJ.none hP hD hS hA) hS rfl hl.1 rfl (Nat.le_of_ble_eq_true rfl) dX7_load_27 ⟨Nat.zero_le _, Nat.zero_le _⟩ (fun H locs hP hD hS => ?_)
      refine lv_if_ne (tgt := 35) hx hb dX7_load_30 (by decide) (fun c8 => ?_) (fun c8 => ?_)
      · have hsp := z_f c8 hsp
        refine lv_aload_n hx hb dX7_load_35 rfl (lv_at hl 0 rfl) ?_
        refine va_get (D := dD) (ci := 7) (v := .ref (q 11)) (C := RX7) (T := TX7) (N := 41) hx hb hts iX7 hown hK.1 hP 0 rfl rfl 11 (by decide) f32 (fun _ h9 => h9) rfl dX7_load_36 ?_
        refine lv_iload_n hx hb dX7_load_39 rfl (lv_at hl 1 rfl) ?_
        refine lv_iload_n hx hb dX7_load_40 rfl (lv_at hl 2 rfl) ?_
        obtain ⟨h9, hsp⟩ := z_in hsp
        refine va_iast hx hb hK.1 hP hD hS 3 0 rfl rfl h9 dX7_load_41 (fun H locs hP hD hS => ?_)
        obtain ⟨F10, eF10, hsp⟩ := z_lt hsp
        have hP : va_P dD vwCl (zQ cI q g F10) H := by rw [eF10]; exact hP
        have hD : va_D A (zQ cI q g F10) := by rw [eF10]; exact hD
        refine lv_aload_n hx hb dX7_load_42 rfl (lv_at hl 0 rfl) ?_
        refine va_get (D := dD) (ci := 7) (v := .ref (q 12)) (C := RX7) (T := TX7) (N := 41) hx hb hts iX7 hown hK.1 hP 0 rfl rfl 12 (by decide) f35 (fun _ h9 => h9) rfl dX7_load_43 ?_
        refine lv_iload_n hx hb dX7_load_46 rfl (lv_at hl 1 rfl) ?_
        refine lv_aload_n hx hb dX7_load_47 rfl (lv_at hl 0 rfl) ?_
        refine va_get (D := dD) (ci := 7) (v := .int (g 8)) (C := RX7) (T := TX7) (N := 41) hx hb hts iX7 hown hK.1 hP 0 rfl rfl 8 (by decide) f142 (fun _ h9 => h9) rfl dX7_load_48 ?_
        obtain ⟨h11, hsp⟩ := z_in hsp
        refine va_iast hx hb hK.1 hP hD hS 4 0 rfl rfl h11 dX7_load_51 (fun H locs hP hD hS => ?_)
        obtain ⟨F12, eF12, hsp⟩ := z_lt hsp
        have hP : va_P dD vwCl (zQ cI q g F12) H := by rw [eF12]; exact hP
        have hD : va_D A (zQ cI q g F12) := by rw [eF12]; exact hD
        refine lv_aload_n hx hb dX7_load_52 rfl (lv_at hl 0 rfl) ?_
        refine lv_iload_n hx hb dX7_load_53 rfl (lv_at hl 1 rfl) ?_
        obtain ⟨F13, hc14, hsp⟩ := z_b1 hsp
        refine z_callVv ⟨hx, hb, hml, hown, hts⟩ hK (c_X7_empty l dD cI cA q g F12 (p1) F13 hc14) (cwV 1 hts gX7_load_X7_empty rfl rfl rfl (by decide +kernel) ⟨Nat.le_of_ble_eq_true rfl, Nat.le_of_ble_eq_true rfl⟩) (zJ.full hP hD hS hA) hS 0 7 rfl rfl rfl rfl hl.1 rfl (Nat.le_of_ble_eq_true rfl) dX7_load_54 ⟨Nat.zero_le _, Nat.zero_le _⟩ (fun H locs hP hD hS => ?_)
        refine lv_iconst (v := 0) hx hb dX7_load_57 (by decide) ?_
        refine lv_istore_n (lv' := [(3, .int 0), (0, .ref (q 0)), (1, .int p1), (2, .int p2)]) hx hb dX7_load_58 rfl hl (by decide) rfl (fun ls hl => ?_)
        exact K_59 13 _ _ ls g F13 (p1) (0) hP hD hS (lv_sub hl [1, 2, 0] rfl) hsp
      · have hsp := z_t c8 hsp
        refine lv_iconst (v := (-1)) hx hb dX7_load_33 (by decide) ?_
        obtain ⟨rfl, rfl, rfl⟩ := z_i3 hsp
        exact hret _ _ ls 34 dX7_load_34 rfl hP hD hS
def s_X7_turn (g : zF) (F : Nat → zF) (p1 : Int32) (p2 : Int32) (p3 : Int32) : Option (Int32 × (Nat → zF)) := zb1 (s_X7_isMachine g F (p1)) fun (v1 : Int32) => (if v1 = 0 then some (0, F) else if p1 < 0 ∨ 12 ≤ (p1).toNatClampNeg then none else zb1 (s_X7_isIn (p2) ((((F 27) (p1).toNatClampNeg) + 1)) (9999)) fun (v5 : Int32) => (if v5 = 0 then some (0, F) else zb1 (s_X7_isIn (p3) (0) (1000000)) fun (v8 : Int32) => (if v8 = 0 then some (0, F) else if p1 < 0 ∨ 12 ≤ (p1).toNatClampNeg then none else zl (zu F 27 (p1).toNatClampNeg (p2)) fun (F12 : Nat → zF) => if p1 < 0 ∨ 12 ≤ (p1).toNatClampNeg then none else zl (zu F12 28 (p1).toNatClampNeg (p3)) fun (F14 : Nat → zF) => some (1, F14))))
abbrev rm_X7_turn : Room := { frames := 2, cells := 0, slots := 0, locals := 43 }
set_option maxHeartbeats 4000000 in
set_option maxRecDepth 100000 in
theorem c_X7_turn (l : Launch) (dD : va_G) (cI cA : ClassId) (q : Nat → Nat) (g : zF) (F : Nat → zF) (p1 : Int32) (p2 : Int32) (p3 : Int32) (rv : Int32) (r_F : Nat → zF) (hsp : s_X7_turn g F p1 p2 p3 = some (rv, r_F)) : zMi l yX7_turn wsX7_turn rm_X7_turn dD cI cA [.ref (q 0), .int p1, .int p2, .int p3] (zQ cI q g F) (zQ cI q g r_F) rv := by
  refine zMi_of (cc := cX7_turn) (maxL := 4) (by decide) rfl (Nat.le_of_ble_eq_true rfl) ?_
  intro p e s m args below meth c A Q ls hx hb hml hown hts hK hA hP hD hl hret
  have hown : s.vm.findClass RX7 = some m.cls := hown
  have iX7 : ∀ w ∈ wsX70, w ∈ wsX7_turn := by decide +kernel
  have f80 := hts (.fieldLink RX7 80 "MeshFieldModel" "turnNumber" "[I") (by decide +kernel)
  have f83 := hts (.fieldLink RX7 83 "MeshFieldModel" "turnTick" "[I") (by decide +kernel)
  have hS : va_S A s.heap s.heap [] := va_S.rf
  have hl : lv_has ls 4 [(0, .ref (q 0)), (1, .int p1), (2, .int p2), (3, .int p3)] := hl
  unfold s_X7_turn at hsp
  refine lv_aload_n hx hb dX7_turn_0 rfl (lv_at hl 0 rfl) ?_
  refine lv_iload_n hx hb dX7_turn_1 rfl (lv_at hl 1 rfl) ?_
  obtain ⟨v1, hc2, hsp⟩ := z_b1 hsp
  refine z_callVi ⟨hx, hb, hml, hown, hts⟩ hK (c_X7_isMachine l dD cI cA q g F (p1) v1 hc2) (cwV 1 hts gX7_turn_X7_isMachine rfl rfl rfl (by decide +kernel) ⟨Nat.le_of_ble_eq_true rfl, Nat.le_of_ble_eq_true rfl⟩) (zJ.full hP hD hS hA) hS 0 7 rfl rfl rfl rfl hl.1 rfl (Nat.le_of_ble_eq_true rfl) dX7_turn_2 ⟨Nat.zero_le _, Nat.zero_le _⟩ (fun H locs hP hD hS => ?_)
  refine lv_if_eq (tgt := 36) hx hb dX7_turn_5 (by decide) (fun c3 => ?_) (fun c3 => ?_)
  · have hsp := z_t c3 hsp
    refine lv_iconst (v := 0) hx hb dX7_turn_36 (by decide) ?_
    obtain ⟨rfl, rfl⟩ := z_i2 hsp
    exact hret _ _ ls 37 dX7_turn_37 rfl hP hD hS
  · have hsp := z_f c3 hsp
    refine lv_iload_n hx hb dX7_turn_8 rfl (lv_at hl 2 rfl) ?_
    refine lv_aload_n hx hb dX7_turn_9 rfl (lv_at hl 0 rfl) ?_
    refine va_get (D := dD) (ci := 7) (v := .ref (q 27)) (C := RX7) (T := TX7) (N := 41) hx hb hts iX7 hown hK.1 hP 0 rfl rfl 27 (by decide) f80 (fun _ h9 => h9) rfl dX7_turn_10 ?_
    refine lv_iload_n hx hb dX7_turn_13 rfl (lv_at hl 1 rfl) ?_
    obtain ⟨h4, hsp⟩ := z_in hsp
    refine va_iald hx hb hK.1 hP 19 0 rfl rfl h4 dX7_turn_14 ?_
    refine lv_iconst (v := 1) hx hb dX7_turn_15 (by decide) ?_
    refine lv_iadd hx hb dX7_turn_16 ?_
    refine lv_sipush (v := 9999) hx hb dX7_turn_17 (by decide) ?_
    obtain ⟨v5, hc6, hsp⟩ := z_b1 hsp
    refine z_callSi ⟨hx, hb, hml, hown, hts⟩ hK (c_X7_isIn l dD cI cA (p2) ((((F 27) (p1).toNatClampNeg) + 1)) (9999) v5 hc6) (va_cwS 3 hts gX7_turn_X7_isIn rfl rfl rfl (by decide +kernel) ⟨Nat.le_of_ble_eq_true rfl, Nat.le_of_ble_eq_true rfl⟩) (zJ.none hP hD hS hA) hS rfl hl.1 rfl (Nat.le_of_ble_eq_true rfl) dX7_turn_20 ⟨Nat.zero_le _, Nat.zero_le _⟩ (fun H locs hP hD hS => ?_)
    refine lv_if_eq (tgt := 36) hx hb dX7_turn_23 (by decide) (fun c7 => ?_) (fun c7 => ?_)
    · have hsp := z_t c7 hsp
      refine lv_iconst (v := 0) hx hb dX7_turn_36 (by decide) ?_
      obtain ⟨rfl, rfl⟩ := z_i2 hsp
      exact hret _ _ ls 37 dX7_turn_37 rfl hP hD hS
    · have hsp := z_f c7 hsp
      refine lv_iload_n hx hb dX7_turn_26 rfl (lv_at hl 3 rfl) ?_
      refine lv_iconst (v := 0) hx hb dX7_turn_27 (by decide) ?_
      refine lv_ldc (v := 1000000) hx hb hown (hts (.constant RX7 158 1000000) (by decide +kernel)) dX7_turn_28 ?_
      obtain ⟨v8, hc9, hsp⟩ := z_b1 hsp
      refine z_callSi ⟨hx, hb, hml, hown, hts⟩ hK (c_X7_isIn l dD cI cA (p3) (0) (1000000) v8 hc9) (va_cwS 3 hts gX7_turn_X7_isIn rfl rfl rfl (by decide +kernel) ⟨Nat.le_of_ble_eq_true rfl, Nat.le_of_ble_eq_true rfl⟩) (zJ.none hP hD hS hA) hS rfl hl.1 rfl (Nat.le_of_ble_eq_true rfl) dX7_turn_30 ⟨Nat.zero_le _, Nat.zero_le _⟩ (fun H locs hP hD hS => ?_)
      refine lv_if_ne (tgt := 38) hx hb dX7_turn_33 (by decide) (fun c10 => ?_) (fun c10 => ?_)
      · have hsp := z_f c10 hsp
        refine lv_aload_n hx hb dX7_turn_38 rfl (lv_at hl 0 rfl) ?_
        refine va_get (D := dD) (ci := 7) (v := .ref (q 27)) (C := RX7) (T := TX7) (N := 41) hx hb hts iX7 hown hK.1 hP 0 rfl rfl 27 (by decide) f80 (fun _ h9 => h9) rfl dX7_turn_39 ?_
        refine lv_iload_n hx hb dX7_turn_42 rfl (lv_at hl 1 rfl) ?_
        refine lv_iload_n hx hb dX7_turn_43 rfl (lv_at hl 2 rfl) ?_
        obtain ⟨h11, hsp⟩ := z_in hsp
        refine va_iast hx hb hK.1 hP hD hS 19 0 rfl rfl h11 dX7_turn_44 (fun H locs hP hD hS => ?_)
        obtain ⟨F12, eF12, hsp⟩ := z_lt hsp
        have hP : va_P dD vwCl (zQ cI q g F12) H := by rw [eF12]; exact hP
        have hD : va_D A (zQ cI q g F12) := by rw [eF12]; exact hD
        refine lv_aload_n hx hb dX7_turn_45 rfl (lv_at hl 0 rfl) ?_
        refine va_get (D := dD) (ci := 7) (v := .ref (q 28)) (C := RX7) (T := TX7) (N := 41) hx hb hts iX7 hown hK.1 hP 0 rfl rfl 28 (by decide) f83 (fun _ h9 => h9) rfl dX7_turn_46 ?_
        refine lv_iload_n hx hb dX7_turn_49 rfl (lv_at hl 1 rfl) ?_
        refine lv_iload_n hx hb dX7_turn_50 rfl (lv_at hl 3 rfl) ?_
        obtain ⟨h13, hsp⟩ := z_in hsp
        refine va_iast hx hb hK.1 hP hD hS 20 0 rfl rfl h13 dX7_turn_51 (fun H locs hP hD hS => ?_)
        obtain ⟨F14, eF14, hsp⟩ := z_lt hsp
        have hP : va_P dD vwCl (zQ cI q g F14) H := by rw [eF14]; exact hP
        have hD : va_D A (zQ cI q g F14) := by rw [eF14]; exact hD
        refine lv_iconst (v := 1) hx hb dX7_turn_52 (by decide) ?_
        obtain ⟨rfl, rfl⟩ := z_i2 hsp
        exact hret _ _ ls 53 dX7_turn_53 rfl hP hD hS
      · have hsp := z_t c10 hsp
        refine lv_iconst (v := 0) hx hb dX7_turn_36 (by decide) ?_
        obtain ⟨rfl, rfl⟩ := z_i2 hsp
        exact hret _ _ ls 37 dX7_turn_37 rfl hP hD hS
def s_X7_own_b15  (g_ : zF) (F_ : Nat → zF) (lo1 : Int32) : Option ((zF) × (Nat → zF)) := if lo1 < 0 ∨ 12 ≤ (lo1).toNatClampNeg then none else zl (zu F_ 21 (lo1).toNatClampNeg ((-1))) fun (F6 : Nat → zF) => some (g_, F6)
def s_X7_own (g : zF) (F : Nat → zF) (p1 : Int32) (p2 : Int32) (p3 : Int32) : Option ((zF) × (Nat → zF)) := zb2 (s_X7_comesIn g F (p1) (p2) (p3)) fun (v1 : Int32) (F2 : Nat → zF) => (if v1 = 0 then (s_X7_own_b15  g F2 (p1)) else zb2 (s_X7_stir g F2 (p1)) fun (g7 : zF) (F8 : Nat → zF) => (s_X7_own_b15  g7 F8 (p1)))
abbrev rm_X7_own : Room := { frames := 3, cells := 0, slots := 0, locals := 64 }
set_option maxHeartbeats 4000000 in
set_option maxRecDepth 100000 in
theorem c_X7_own (l : Launch) (dD : va_G) (cI cA : ClassId) (q : Nat → Nat) (g : zF) (F : Nat → zF) (p1 : Int32) (p2 : Int32) (p3 : Int32) (r_g : zF) (r_F : Nat → zF) (hsp : s_X7_own g F p1 p2 p3 = some (r_g, r_F)) : zMv l yX7_own wsX7_own rm_X7_own dD cI cA [.ref (q 0), .int p1, .int p2, .int p3] (zQ cI q g F) (zQ cI q r_g r_F) := by
  refine zMv_of (cc := cX7_own) (maxL := 4) (by decide) rfl (Nat.le_of_ble_eq_true rfl) ?_
  intro p e s m args below meth c A Q ls hx hb hml hown hts hK hA hP hD hl hret
  have hown : s.vm.findClass RX7 = some m.cls := hown
  have iX7 : ∀ w ∈ wsX70, w ∈ wsX7_own := by decide +kernel
  have f62 := hts (.fieldLink RX7 62 "MeshFieldModel" "dataAt" "[I") (by decide +kernel)
  have hS : va_S A s.heap s.heap [] := va_S.rf
  have hl : lv_has ls 4 [(0, .ref (q 0)), (1, .int p1), (2, .int p2), (3, .int p3)] := hl
  have K_15 : ∀ (H : Heap) (locs : List Loc) (ls : Array Slot) (g_ : zF) (F_ : Nat → zF) (lo1 : Int32), va_P dD vwCl (zQ cI q g_ F_) H → va_D A (zQ cI q g_ F_) → va_S A s.heap H locs → lv_has ls 4 [(0, .ref (q 0)), (1, .int lo1)] → s_X7_own_b15  g_ F_ lo1 = some (r_g, r_F) → W p l e rm_X7_own s m args below meth c H locs 0 0 Q (F0 m 15 ls []) := by
    intro H locs ls g_ F_ lo1 hP hD hS hl hsp
    unfold s_X7_own_b15 at hsp
    refine lv_aload_n hx hb dX7_own_15 rfl (lv_at hl 0 rfl) ?_
    refine va_get (D := dD) (ci := 7) (v := .ref (q 21)) (C := RX7) (T := TX7) (N := 41) hx hb hts iX7 hown hK.1 hP 0 rfl rfl 21 (by decide) f62 (fun _ h9 => h9) rfl dX7_own_16 ?_
    refine lv_iload_n hx hb dX7_own_19 rfl (lv_at hl 1 rfl) ?_
    refine lv_iconst (v := (-1)) hx hb dX7_own_20 (by decide) ?_
    obtain ⟨h5, hsp⟩ := z_in hsp
    refine va_iast hx hb hK.1 hP hD hS 13 0 rfl rfl h5 dX7_own_21 (fun H locs hP hD hS => ?_)
    obtain ⟨F6, eF6, hsp⟩ := z_lt hsp
    have hP : va_P dD vwCl (zQ cI q g_ F6) H := by rw [eF6]; exact hP
    have hD : va_D A (zQ cI q g_ F6) := by rw [eF6]; exact hD
    obtain ⟨rfl, rfl⟩ := z_i2 hsp
    exact hret _ _ ls 22 dX7_own_22 hP hD hS
  unfold s_X7_own at hsp
  refine lv_aload_n hx hb dX7_own_0 rfl (lv_at hl 0 rfl) ?_
  refine lv_iload_n hx hb dX7_own_1 rfl (lv_at hl 1 rfl) ?_
  refine lv_iload_n hx hb dX7_own_2 rfl (lv_at hl 2 rfl) ?_
  refine lv_iload_n hx hb dX7_own_3 rfl (lv_at hl 3 rfl) ?_
  obtain ⟨v1, F2, hc3, hsp⟩ := z_b2 hsp
  refine z_callVi ⟨hx, hb, hml, hown, hts⟩ hK (c_X7_comesIn l dD cI cA q g F (p1) (p2) (p3) v1 F2 hc3) (cwV 3 hts gX7_own_X7_comesIn rfl rfl rfl (by decide +kernel) ⟨Nat.le_of_ble_eq_true rfl, Nat.le_of_ble_eq_true rfl⟩) (zJ.full hP hD hS hA) hS 0 7 rfl rfl rfl rfl hl.1 rfl (Nat.le_of_ble_eq_true rfl) dX7_own_4 ⟨Nat.zero_le _, Nat.zero_le _⟩ (fun H locs hP hD hS => ?_)
  refine lv_if_eq (tgt := 15) hx hb dX7_own_7 (by decide) (fun c4 => ?_) (fun c4 => ?_)
  · have hsp := z_t c4 hsp
    exact K_15 _ _ ls g F2 (p1) hP hD hS (lv_sub hl [0, 1] rfl) hsp
  · have hsp := z_f c4 hsp
    refine lv_aload_n hx hb dX7_own_10 rfl (lv_at hl 0 rfl) ?_
    refine lv_iload_n hx hb dX7_own_11 rfl (lv_at hl 1 rfl) ?_
    obtain ⟨g7, F8, hc9, hsp⟩ := z_b2 hsp
    refine z_callVv ⟨hx, hb, hml, hown, hts⟩ hK (c_X7_stir l dD cI cA q g F2 (p1) g7 F8 hc9) (cwV 1 hts gX7_own_X7_stir rfl rfl rfl (by decide +kernel) ⟨Nat.le_of_ble_eq_true rfl, Nat.le_of_ble_eq_true rfl⟩) (zJ.full hP hD hS hA) hS 0 7 rfl rfl rfl rfl hl.1 rfl (Nat.le_of_ble_eq_true rfl) dX7_own_12 ⟨Nat.zero_le _, Nat.zero_le _⟩ (fun H locs hP hD hS => ?_)
    exact K_15 _ _ ls g7 F8 (p1) hP hD hS (lv_sub hl [0, 1] rfl) hsp
def s_X7_lie (g : zF) (F : Nat → zF) (p1 : Int32) (p2 : Int32) (p3 : Int32) : Option (Int32 × (zF) × (Nat → zF)) := zb1 (s_X7_isMachine g F (p1)) fun (v1 : Int32) => (if v1 = 0 then some (0, g, F) else if p1 < 0 ∨ 12 ≤ (p1).toNatClampNeg then none else (if ((F 11) (p1).toNatClampNeg) = 0 then some (0, g, F) else if p1 < 0 ∨ 12 ≤ (p1).toNatClampNeg then none else zb1 (s_X7_isIn (p2) (1) (((zShl 1 ((F 12) (p1).toNatClampNeg)) - 1))) fun (v7 : Int32) => (if v7 = 0 then some (0, g, F) else zb2 (s_X7_own g F (p1) (p2) (p3)) fun (g10 : zF) (F11 : Nat → zF) => some (1, g10, F11))))
abbrev rm_X7_lie : Room := { frames := 4, cells := 0, slots := 0, locals := 87 }
set_option maxHeartbeats 4000000 in
set_option maxRecDepth 100000 in
theorem c_X7_lie (l : Launch) (dD : va_G) (cI cA : ClassId) (q : Nat → Nat) (g : zF) (F : Nat → zF) (p1 : Int32) (p2 : Int32) (p3 : Int32) (rv : Int32) (r_g : zF) (r_F : Nat → zF) (hsp : s_X7_lie g F p1 p2 p3 = some (rv, r_g, r_F)) : zMi l yX7_lie wsX7_lie rm_X7_lie dD cI cA [.ref (q 0), .int p1, .int p2, .int p3] (zQ cI q g F) (zQ cI q r_g r_F) rv := by
  refine zMi_of (cc := cX7_lie) (maxL := 4) (by decide) rfl (Nat.le_of_ble_eq_true rfl) ?_
  intro p e s m args below meth c A Q ls hx hb hml hown hts hK hA hP hD hl hret
  have hown : s.vm.findClass RX7 = some m.cls := hown
  have iX7 : ∀ w ∈ wsX70, w ∈ wsX7_lie := by decide +kernel
  have f32 := hts (.fieldLink RX7 32 "MeshFieldModel" "number" "[I") (by decide +kernel)
  have f35 := hts (.fieldLink RX7 35 "MeshFieldModel" "many" "[I") (by decide +kernel)
  have hS : va_S A s.heap s.heap [] := va_S.rf
  have hl : lv_has ls 4 [(0, .ref (q 0)), (1, .int p1), (2, .int p2), (3, .int p3)] := hl
  unfold s_X7_lie at hsp
  refine lv_aload_n hx hb dX7_lie_0 rfl (lv_at hl 0 rfl) ?_
  refine lv_iload_n hx hb dX7_lie_1 rfl (lv_at hl 1 rfl) ?_
  obtain ⟨v1, hc2, hsp⟩ := z_b1 hsp
  refine z_callVi ⟨hx, hb, hml, hown, hts⟩ hK (c_X7_isMachine l dD cI cA q g F (p1) v1 hc2) (cwV 1 hts gX7_lie_X7_isMachine rfl rfl rfl (by decide +kernel) ⟨Nat.le_of_ble_eq_true rfl, Nat.le_of_ble_eq_true rfl⟩) (zJ.full hP hD hS hA) hS 0 7 rfl rfl rfl rfl hl.1 rfl (Nat.le_of_ble_eq_true rfl) dX7_lie_2 ⟨Nat.zero_le _, Nat.zero_le _⟩ (fun H locs hP hD hS => ?_)
  refine lv_if_eq (tgt := 35) hx hb dX7_lie_5 (by decide) (fun c3 => ?_) (fun c3 => ?_)
  · have hsp := z_t c3 hsp
    refine lv_iconst (v := 0) hx hb dX7_lie_35 (by decide) ?_
    obtain ⟨rfl, rfl, rfl⟩ := z_i3 hsp
    exact hret _ _ ls 36 dX7_lie_36 rfl hP hD hS
  · have hsp := z_f c3 hsp
    refine lv_aload_n hx hb dX7_lie_8 rfl (lv_at hl 0 rfl) ?_
    refine va_get (D := dD) (ci := 7) (v := .ref (q 11)) (C := RX7) (T := TX7) (N := 41) hx hb hts iX7 hown hK.1 hP 0 rfl rfl 11 (by decide) f32 (fun _ h9 => h9) rfl dX7_lie_9 ?_
    refine lv_iload_n hx hb dX7_lie_12 rfl (lv_at hl 1 rfl) ?_
    obtain ⟨h4, hsp⟩ := z_in hsp
    refine va_iald hx hb hK.1 hP 3 0 rfl rfl h4 dX7_lie_13 ?_
    refine lv_if_eq (tgt := 35) hx hb dX7_lie_14 (by decide) (fun c5 => ?_) (fun c5 => ?_)
    · have hsp := z_t c5 hsp
      refine lv_iconst (v := 0) hx hb dX7_lie_35 (by decide) ?_
      obtain ⟨rfl, rfl, rfl⟩ := z_i3 hsp
      exact hret _ _ ls 36 dX7_lie_36 rfl hP hD hS
    · have hsp := z_f c5 hsp
      refine lv_iload_n hx hb dX7_lie_17 rfl (lv_at hl 2 rfl) ?_
      refine lv_iconst (v := 1) hx hb dX7_lie_18 (by decide) ?_
      refine lv_iconst (v := 1) hx hb dX7_lie_19 (by decide) ?_
      refine lv_aload_n hx hb dX7_lie_20 rfl (lv_at hl 0 rfl) ?_
      refine va_get (D := dD) (ci := 7) (v := .ref (q 12)) (C := RX7) (T := TX7) (N := 41) hx hb hts iX7 hown hK.1 hP 0 rfl rfl 12 (by decide) f35 (fun _ h9 => h9) rfl dX7_lie_21 ?_
      refine lv_iload_n hx hb dX7_lie_24 rfl (lv_at hl 1 rfl) ?_
      obtain ⟨h6, hsp⟩ := z_in hsp
      refine va_iald hx hb hK.1 hP 4 0 rfl rfl h6 dX7_lie_25 ?_
      refine lv_ishl hx hb dX7_lie_26 ?_
      refine z_top (y := (zShl 1 ((F 12) (p1).toNatClampNeg))) rfl ?_
      refine lv_iconst (v := 1) hx hb dX7_lie_27 (by decide) ?_
      refine lv_isub hx hb dX7_lie_28 ?_
      obtain ⟨v7, hc8, hsp⟩ := z_b1 hsp
      refine z_callSi ⟨hx, hb, hml, hown, hts⟩ hK (c_X7_isIn l dD cI cA (p2) (1) (((zShl 1 ((F 12) (p1).toNatClampNeg)) - 1)) v7 hc8) (va_cwS 3 hts gX7_lie_X7_isIn rfl rfl rfl (by decide +kernel) ⟨Nat.le_of_ble_eq_true rfl, Nat.le_of_ble_eq_true rfl⟩) (zJ.none hP hD hS hA) hS rfl hl.1 rfl (Nat.le_of_ble_eq_true rfl) dX7_lie_29 ⟨Nat.zero_le _, Nat.zero_le _⟩ (fun H locs hP hD hS => ?_)
      refine lv_if_ne (tgt := 37) hx hb dX7_lie_32 (by decide) (fun c9 => ?_) (fun c9 => ?_)
      · have hsp := z_f c9 hsp
        refine lv_aload_n hx hb dX7_lie_37 rfl (lv_at hl 0 rfl) ?_
        refine lv_iload_n hx hb dX7_lie_38 rfl (lv_at hl 1 rfl) ?_
        refine lv_iload_n hx hb dX7_lie_39 rfl (lv_at hl 2 rfl) ?_
        refine lv_iload_n hx hb dX7_lie_40 rfl (lv_at hl 3 rfl) ?_
        obtain ⟨g10, F11, hc12, hsp⟩ := z_b2 hsp
        refine z_callVv ⟨hx, hb, hml, hown, hts⟩ hK (c_X7_own l dD cI cA q g F (p1) (p2) (p3) g10 F11 hc12) (cwV 3 hts gX7_lie_X7_own rfl rfl rfl (by decide +kernel) ⟨Nat.le_of_ble_eq_true rfl, Nat.le_of_ble_eq_true rfl⟩) (zJ.full hP hD hS hA) hS 0 7 rfl rfl rfl rfl hl.1 rfl (Nat.le_of_ble_eq_true rfl) dX7_lie_41 ⟨Nat.zero_le _, Nat.zero_le _⟩ (fun H locs hP hD hS => ?_)
        refine lv_iconst (v := 1) hx hb dX7_lie_44 (by decide) ?_
        obtain ⟨rfl, rfl, rfl⟩ := z_i3 hsp
        exact hret _ _ ls 45 dX7_lie_45 rfl hP hD hS
      · have hsp := z_t c9 hsp
        refine lv_iconst (v := 0) hx hb dX7_lie_35 (by decide) ?_
        obtain ⟨rfl, rfl, rfl⟩ := z_i3 hsp
        exact hret _ _ ls 36 dX7_lie_36 rfl hP hD hS
def s_X7_cut_b72  (g_ : zF) (F_ : Nat → zF) (lo1 : Int32) : Option (Int32 × (zF) × (Nat → zF)) := if lo1 < 0 ∨ 12 ≤ (lo1).toNatClampNeg then none else zl (zu F_ 17 (lo1).toNatClampNeg ((g_ 2))) fun (F7 : Nat → zF) => zb2 (s_X7_begin g_ F7 (lo1) ((g_ 6))) fun (g8 : zF) (F9 : Nat → zF) => if lo1 < 0 ∨ 12 ≤ (lo1).toNatClampNeg then none else zl (zu F9 21 (lo1).toNatClampNeg ((-1))) fun (F12 : Nat → zF) => if lo1 < 0 ∨ 12 ≤ (lo1).toNatClampNeg then none else zl (zu F12 27 (lo1).toNatClampNeg (0)) fun (F14 : Nat → zF) => if lo1 < 0 ∨ 12 ≤ (lo1).toNatClampNeg then none else zl (zu F14 28 (lo1).toNatClampNeg (0)) fun (F16 : Nat → zF) => some (1, g8, F16)
def s_X7_cut_b38  (g_ : zF) (F_ : Nat → zF) (lo1 : Int32) (lo2 : Int32) (lo3 : Int32) : Option (Int32 × (zF) × (Nat → zF)) := (if lo2 = 0 then (s_X7_cut_b72  g_ F_ (lo1)) else (if 12 ≤ lo3 then (s_X7_cut_b72  g_ F_ (lo1)) else if ((12 * lo1) + lo3) < 0 ∨ 144 ≤ (((12 * lo1) + lo3)).toNatClampNeg then none else zl (zu F_ 14 (((12 * lo1) + lo3)).toNatClampNeg (0)) fun (F19 : Nat → zF) => if ((12 * lo1) + lo3) < 0 ∨ 144 ≤ (((12 * lo1) + lo3)).toNatClampNeg then none else zl (zu F19 15 (((12 * lo1) + lo3)).toNatClampNeg (0)) fun (F21 : Nat → zF) => (s_X7_cut_b72  g_ F21 (lo1))))
def s_X7_cut_b12  : Nat → (zF) → (Nat → zF) → (Int32) → (Int32) → (Int32) → Option (Int32 × (zF) × (Nat → zF))
  | 0, _, _, _, _, _ => none
  | n12 + 1, g_, F_, lo1, lo2, lo3 => (if 12 ≤ lo3 then (s_X7_cut_b38  g_ F_ (lo1) (lo2) (lo3)) else if ((12 * lo1) + lo3) < 0 ∨ 144 ≤ (((12 * lo1) + lo3)).toNatClampNeg then none else (if ((F_ 14) (((12 * lo1) + lo3)).toNatClampNeg) = 0 then zl (lo3 + 1) fun (x24 : Int32) => (s_X7_cut_b12  n12 g_ F_ (lo1) (lo2) (x24)) else (s_X7_cut_b38  g_ F_ (lo1) (lo2) (lo3))))
def s_X7_cut (g : zF) (F : Nat → zF) (p1 : Int32) (p2 : Int32) : Option (Int32 × (zF) × (Nat → zF)) := zb1 (s_X7_isMachine g F (p1)) fun (v1 : Int32) => (if v1 = 0 then some (0, g, F) else (s_X7_cut_b12  13 g F (p1) (p2) (0)))
abbrev rm_X7_cut : Room := { frames := 2, cells := 0, slots := 0, locals := 43 }
set_option maxHeartbeats 4000000 in
set_option maxRecDepth 100000 in
theorem c_X7_cut (l : Launch) (dD : va_G) (cI cA : ClassId) (q : Nat → Nat) (g : zF) (F : Nat → zF) (p1 : Int32) (p2 : Int32) (rv : Int32) (r_g : zF) (r_F : Nat → zF) (hsp : s_X7_cut g F p1 p2 = some (rv, r_g, r_F)) : zMi l yX7_cut wsX7_cut rm_X7_cut dD cI cA [.ref (q 0), .int p1, .int p2] (zQ cI q g F) (zQ cI q r_g r_F) rv := by
  refine zMi_of (cc := cX7_cut) (maxL := 4) (by decide) rfl (Nat.le_of_ble_eq_true rfl) ?_
  intro p e s m args below meth c A Q ls hx hb hml hown hts hK hA hP hD hl hret
  have hown : s.vm.findClass RX7 = some m.cls := hown
  have iX7 : ∀ w ∈ wsX70, w ∈ wsX7_cut := by decide +kernel
  have f50 := hts (.fieldLink RX7 50 "MeshFieldModel" "span" "[I") (by decide +kernel)
  have f16 := hts (.fieldLink RX7 16 "MeshFieldModel" "low" "I") (by decide +kernel)
  have f131 := hts (.fieldLink RX7 131 "MeshFieldModel" "tick" "I") (by decide +kernel)
  have f62 := hts (.fieldLink RX7 62 "MeshFieldModel" "dataAt" "[I") (by decide +kernel)
  have f80 := hts (.fieldLink RX7 80 "MeshFieldModel" "turnNumber" "[I") (by decide +kernel)
  have f83 := hts (.fieldLink RX7 83 "MeshFieldModel" "turnTick" "[I") (by decide +kernel)
  have f41 := hts (.fieldLink RX7 41 "MeshFieldModel" "mask" "[I") (by decide +kernel)
  have f44 := hts (.fieldLink RX7 44 "MeshFieldModel" "data" "[I") (by decide +kernel)
  have hS : va_S A s.heap s.heap [] := va_S.rf
  have hl : lv_has ls 4 [(0, .ref (q 0)), (1, .int p1), (2, .int p2)] := hl
  have K_72 : ∀ (H : Heap) (locs : List Loc) (ls : Array Slot) (g_ : zF) (F_ : Nat → zF) (lo1 : Int32), va_P dD vwCl (zQ cI q g_ F_) H → va_D A (zQ cI q g_ F_) → va_S A s.heap H locs → lv_has ls 4 [(0, .ref (q 0)), (1, .int lo1)] → s_X7_cut_b72  g_ F_ lo1 = some (rv, r_g, r_F) → W p l e rm_X7_cut s m args below meth c H locs 0 0 Q (F0 m 72 ls []) := by
    intro H locs ls g_ F_ lo1 hP hD hS hl hsp
    unfold s_X7_cut_b72 at hsp
    refine lv_aload_n hx hb dX7_cut_72 rfl (lv_at hl 0 rfl) ?_
    refine va_get (D := dD) (ci := 7) (v := .ref (q 17)) (C := RX7) (T := TX7) (N := 41) hx hb hts iX7 hown hK.1 hP 0 rfl rfl 17 (by decide) f50 (fun _ h9 => h9) rfl dX7_cut_73 ?_
    refine lv_iload_n hx hb dX7_cut_76 rfl (lv_at hl 1 rfl) ?_
    refine lv_aload_n hx hb dX7_cut_77 rfl (lv_at hl 0 rfl) ?_
    refine va_get (D := dD) (ci := 7) (v := .int (g_ 2)) (C := RX7) (T := TX7) (N := 41) hx hb hts iX7 hown hK.1 hP 0 rfl rfl 2 (by decide) f16 (fun _ h9 => h9) rfl dX7_cut_78 ?_
    obtain ⟨h6, hsp⟩ := z_in hsp
    refine va_iast hx hb hK.1 hP hD hS 9 0 rfl rfl h6 dX7_cut_81 (fun H locs hP hD hS => ?_)
    obtain ⟨F7, eF7, hsp⟩ := z_lt hsp
    have hP : va_P dD vwCl (zQ cI q g_ F7) H := by rw [eF7]; exact hP
    have hD : va_D A (zQ cI q g_ F7) := by rw [eF7]; exact hD
    refine lv_aload_n hx hb dX7_cut_82 rfl (lv_at hl 0 rfl) ?_
    refine lv_iload_n hx hb dX7_cut_83 rfl (lv_at hl 1 rfl) ?_
    refine lv_aload_n hx hb dX7_cut_84 rfl (lv_at hl 0 rfl) ?_
    refine va_get (D := dD) (ci := 7) (v := .int (g_ 6)) (C := RX7) (T := TX7) (N := 41) hx hb hts iX7 hown hK.1 hP 0 rfl rfl 6 (by decide) f131 (fun _ h9 => h9) rfl dX7_cut_85 ?_
    obtain ⟨g8, F9, hc10, hsp⟩ := z_b2 hsp
    refine z_callVv ⟨hx, hb, hml, hown, hts⟩ hK (c_X7_begin l dD cI cA q g_ F7 (lo1) ((g_ 6)) g8 F9 hc10) (cwV 2 hts gX7_cut_X7_begin rfl rfl rfl (by decide +kernel) ⟨Nat.le_of_ble_eq_true rfl, Nat.le_of_ble_eq_true rfl⟩) (zJ.full hP hD hS hA) hS 0 7 rfl rfl rfl rfl hl.1 rfl (Nat.le_of_ble_eq_true rfl) dX7_cut_88 ⟨Nat.zero_le _, Nat.zero_le _⟩ (fun H locs hP hD hS => ?_)
    refine lv_aload_n hx hb dX7_cut_91 rfl (lv_at hl 0 rfl) ?_
    refine va_get (D := dD) (ci := 7) (v := .ref (q 21)) (C := RX7) (T := TX7) (N := 41) hx hb hts iX7 hown hK.1 hP 0 rfl rfl 21 (by decide) f62 (fun _ h9 => h9) rfl dX7_cut_92 ?_
    refine lv_iload_n hx hb dX7_cut_95 rfl (lv_at hl 1 rfl) ?_
    refine lv_iconst (v := (-1)) hx hb dX7_cut_96 (by decide) ?_
    obtain ⟨h11, hsp⟩ := z_in hsp
    refine va_iast hx hb hK.1 hP hD hS 13 0 rfl rfl h11 dX7_cut_97 (fun H locs hP hD hS => ?_)
    obtain ⟨F12, eF12, hsp⟩ := z_lt hsp
    have hP : va_P dD vwCl (zQ cI q g8 F12) H := by rw [eF12]; exact hP
    have hD : va_D A (zQ cI q g8 F12) := by rw [eF12]; exact hD
    refine lv_aload_n hx hb dX7_cut_98 rfl (lv_at hl 0 rfl) ?_
    refine va_get (D := dD) (ci := 7) (v := .ref (q 27)) (C := RX7) (T := TX7) (N := 41) hx hb hts iX7 hown hK.1 hP 0 rfl rfl 27 (by decide) f80 (fun _ h9 => h9) rfl dX7_cut_99 ?_
    refine lv_iload_n hx hb dX7_cut_102 rfl (lv_at hl 1 rfl) ?_
    refine lv_iconst (v := 0) hx hb dX7_cut_103 (by decide) ?_
    obtain ⟨h13, hsp⟩ := z_in hsp
    refine va_iast hx hb hK.1 hP hD hS 19 0 rfl rfl h13 dX7_cut_104 (fun H locs hP hD hS => ?_)
    obtain ⟨F14, eF14, hsp⟩ := z_lt hsp
    have hP : va_P dD vwCl (zQ cI q g8 F14) H := by rw [eF14]; exact hP
    have hD : va_D A (zQ cI q g8 F14) := by rw [eF14]; exact hD
    refine lv_aload_n hx hb dX7_cut_105 rfl (lv_at hl 0 rfl) ?_
    refine va_get (D := dD) (ci := 7) (v := .ref (q 28)) (C := RX7) (T := TX7) (N := 41) hx hb hts iX7 hown hK.1 hP 0 rfl rfl 28 (by decide) f83 (fun _ h9 => h9) rfl dX7_cut_106 ?_
    refine lv_iload_n hx hb dX7_cut_109 rfl (lv_at hl 1 rfl) ?_
    refine lv_iconst (v := 0) hx hb dX7_cut_110 (by decide) ?_
    obtain ⟨h15, hsp⟩ := z_in hsp
    refine va_iast hx hb hK.1 hP hD hS 20 0 rfl rfl h15 dX7_cut_111 (fun H locs hP hD hS => ?_)
    obtain ⟨F16, eF16, hsp⟩ := z_lt hsp
    have hP : va_P dD vwCl (zQ cI q g8 F16) H := by rw [eF16]; exact hP
    have hD : va_D A (zQ cI q g8 F16) := by rw [eF16]; exact hD
    refine lv_iconst (v := 1) hx hb dX7_cut_112 (by decide) ?_
    obtain ⟨rfl, rfl, rfl⟩ := z_i3 hsp
    exact hret _ _ ls 113 dX7_cut_113 rfl hP hD hS
  have K_38 : ∀ (H : Heap) (locs : List Loc) (ls : Array Slot) (g_ : zF) (F_ : Nat → zF) (lo1 : Int32) (lo2 : Int32) (lo3 : Int32), va_P dD vwCl (zQ cI q g_ F_) H → va_D A (zQ cI q g_ F_) → va_S A s.heap H locs → lv_has ls 4 [(0, .ref (q 0)), (1, .int lo1), (2, .int lo2), (3, .int lo3)] → s_X7_cut_b38  g_ F_ lo1 lo2 lo3 = some (rv, r_g, r_F) → W p l e rm_X7_cut s m args below meth c H locs 0 0 Q (F0 m 38 ls []) := by
    intro H locs ls g_ F_ lo1 lo2 lo3 hP hD hS hl hsp
    unfold s_X7_cut_b38 at hsp
    refine lv_iload_n hx hb dX7_cut_38 rfl (lv_at hl 2 rfl) ?_
    refine lv_if_eq (tgt := 72) hx hb dX7_cut_39 (by decide) (fun c5 => ?_) (fun c5 => ?_)
    · have hsp := z_t c5 hsp
      exact K_72 _ _ ls g_ F_ (lo1) hP hD hS (lv_sub hl [0, 1] rfl) hsp
    · have hsp := z_f c5 hsp
      refine lv_iload_n hx hb dX7_cut_42 rfl (lv_at hl 3 rfl) ?_
      refine lv_bipush (v := 12) hx hb dX7_cut_43 (by decide) ?_
      refine lv_icmp_ge (tgt := 72) hx hb dX7_cut_45 (by decide) (fun c17 => ?_) (fun c17 => ?_)
      · have hsp := z_t c17 hsp
        exact K_72 _ _ ls g_ F_ (lo1) hP hD hS (lv_sub hl [0, 1] rfl) hsp
      · have hsp := z_f c17 hsp
        refine lv_aload_n hx hb dX7_cut_48 rfl (lv_at hl 0 rfl) ?_
        refine va_get (D := dD) (ci := 7) (v := .ref (q 14)) (C := RX7) (T := TX7) (N := 41) hx hb hts iX7 hown hK.1 hP 0 rfl rfl 14 (by decide) f41 (fun _ h9 => h9) rfl dX7_cut_49 ?_
        refine lv_bipush (v := 12) hx hb dX7_cut_52 (by decide) ?_
        refine lv_iload_n hx hb dX7_cut_54 rfl (lv_at hl 1 rfl) ?_
        refine lv_imul hx hb dX7_cut_55 ?_
        refine lv_iload_n hx hb dX7_cut_56 rfl (lv_at hl 3 rfl) ?_
        refine lv_iadd hx hb dX7_cut_57 ?_
        refine lv_iconst (v := 0) hx hb dX7_cut_58 (by decide) ?_
        obtain ⟨h18, hsp⟩ := z_in hsp
        refine va_iast hx hb hK.1 hP hD hS 6 0 rfl rfl h18 dX7_cut_59 (fun H locs hP hD hS => ?_)
        obtain ⟨F19, eF19, hsp⟩ := z_lt hsp
        have hP : va_P dD vwCl (zQ cI q g_ F19) H := by rw [eF19]; exact hP
        have hD : va_D A (zQ cI q g_ F19) := by rw [eF19]; exact hD
        refine lv_aload_n hx hb dX7_cut_60 rfl (lv_at hl 0 rfl) ?_
        refine va_get (D := dD) (ci := 7) (v := .ref (q 15)) (C := RX7) (T := TX7) (N := 41) hx hb hts iX7 hown hK.1 hP 0 rfl rfl 15 (by decide) f44 (fun _ h9 => h9) rfl dX7_cut_61 ?_
        refine lv_bipush (v := 12) hx hb dX7_cut_64 (by decide) ?_
        refine lv_iload_n hx hb dX7_cut_66 rfl (lv_at hl 1 rfl) ?_
        refine lv_imul hx hb dX7_cut_67 ?_
        refine lv_iload_n hx hb dX7_cut_68 rfl (lv_at hl 3 rfl) ?_
        refine lv_iadd hx hb dX7_cut_69 ?_
        refine lv_iconst (v := 0) hx hb dX7_cut_70 (by decide) ?_
        obtain ⟨h20, hsp⟩ := z_in hsp
        refine va_iast hx hb hK.1 hP hD hS 7 0 rfl rfl h20 dX7_cut_71 (fun H locs hP hD hS => ?_)
        obtain ⟨F21, eF21, hsp⟩ := z_lt hsp
        have hP : va_P dD vwCl (zQ cI q g_ F21) H := by rw [eF21]; exact hP
        have hD : va_D A (zQ cI q g_ F21) := by rw [eF21]; exact hD
        exact K_72 _ _ ls g_ F21 (lo1) hP hD hS (lv_sub hl [0, 1] rfl) hsp
  have K_12 : ∀ (nf : Nat) (H : Heap) (locs : List Loc) (ls : Array Slot) (g_ : zF) (F_ : Nat → zF) (lo1 : Int32) (lo2 : Int32) (lo3 : Int32), va_P dD vwCl (zQ cI q g_ F_) H → va_D A (zQ cI q g_ F_) → va_S A s.heap H locs → lv_has ls 4 [(0, .ref (q 0)), (1, .int lo1), (2, .int lo2), (3, .int lo3)] → s_X7_cut_b12  nf g_ F_ lo1 lo2 lo3 = some (rv, r_g, r_F) → W p l e rm_X7_cut s m args below meth c H locs 0 0 Q (F0 m 12 ls []) := by
    intro nf
    induction nf with
    | zero =>
      intro H locs ls g_ F_ lo1 lo2 lo3 hP hD hS hl hsp
      exact absurd (show (none : Option (Int32 × (zF) × (Nat → zF))) = some (rv, r_g, r_F) from hsp) (fun h => by cases h)
    | succ n12 ih12 =>
      intro H locs ls g_ F_ lo1 lo2 lo3 hP hD hS hl hsp
      rw [s_X7_cut_b12] at hsp
      refine lv_iload_n hx hb dX7_cut_12 rfl (lv_at hl 3 rfl) ?_
      refine lv_bipush (v := 12) hx hb dX7_cut_13 (by decide) ?_
      refine lv_icmp_ge (tgt := 38) hx hb dX7_cut_15 (by decide) (fun c4 => ?_) (fun c4 => ?_)
      · have hsp := z_t c4 hsp
        exact K_38 _ _ ls g_ F_ (lo1) (lo2) (lo3) hP hD hS (lv_sub hl [0, 1, 2, 3] rfl) hsp
      · have hsp := z_f c4 hsp
        refine lv_aload_n hx hb dX7_cut_18 rfl (lv_at hl 0 rfl) ?_
        refine va_get (D := dD) (ci := 7) (v := .ref (q 14)) (C := RX7) (T := TX7) (N := 41) hx hb hts iX7 hown hK.1 hP 0 rfl rfl 14 (by decide) f41 (fun _ h9 => h9) rfl dX7_cut_19 ?_
        refine lv_bipush (v := 12) hx hb dX7_cut_22 (by decide) ?_
        refine lv_iload_n hx hb dX7_cut_24 rfl (lv_at hl 1 rfl) ?_
        refine lv_imul hx hb dX7_cut_25 ?_
        refine lv_iload_n hx hb dX7_cut_26 rfl (lv_at hl 3 rfl) ?_
        refine lv_iadd hx hb dX7_cut_27 ?_
        obtain ⟨h22, hsp⟩ := z_in hsp
        refine va_iald hx hb hK.1 hP 6 0 rfl rfl h22 dX7_cut_28 ?_
        refine lv_if_ne (tgt := 38) hx hb dX7_cut_29 (by decide) (fun c23 => ?_) (fun c23 => ?_)
        · have hsp := z_f c23 hsp
          exact K_38 _ _ ls g_ F_ (lo1) (lo2) (lo3) hP hD hS (lv_sub hl [0, 1, 2, 3] rfl) hsp
        · have hsp := z_t c23 hsp
          obtain ⟨x24, ex24, hsp⟩ := z_lt hsp
          refine lv_iinc (v := x24) (lv' := [(3, .int x24), (0, .ref (q 0)), (1, .int lo1), (2, .int lo2)]) hx hb dX7_cut_32 hl (k := 3) rfl (by rw [ex24]; rfl) (by decide) rfl (fun ls hl => ?_)
          refine lv_goto (tgt := 12) hx hb dX7_cut_35 (by decide) ?_
          exact ih12 _ _ ls g_ F_ (lo1) (lo2) (x24) hP hD hS (lv_sub hl [1, 2, 3, 0] rfl) hsp
  unfold s_X7_cut at hsp
  refine lv_aload_n hx hb dX7_cut_0 rfl (lv_at hl 0 rfl) ?_
  refine lv_iload_n hx hb dX7_cut_1 rfl (lv_at hl 1 rfl) ?_
  obtain ⟨v1, hc2, hsp⟩ := z_b1 hsp
  refine z_callVi ⟨hx, hb, hml, hown, hts⟩ hK (c_X7_isMachine l dD cI cA q g F (p1) v1 hc2) (cwV 1 hts gX7_cut_X7_isMachine rfl rfl rfl (by decide +kernel) ⟨Nat.le_of_ble_eq_true rfl, Nat.le_of_ble_eq_true rfl⟩) (zJ.full hP hD hS hA) hS 0 7 rfl rfl rfl rfl hl.1 rfl (Nat.le_of_ble_eq_true rfl) dX7_cut_2 ⟨Nat.zero_le _, Nat.zero_le _⟩ (fun H locs hP hD hS => ?_)
  refine lv_if_ne (tgt := 10) hx hb dX7_cut_5 (by decide) (fun c3 => ?_) (fun c3 => ?_)
  · have hsp := z_f c3 hsp
    refine lv_iconst (v := 0) hx hb dX7_cut_10 (by decide) ?_
    refine lv_istore_n (lv' := [(3, .int 0), (0, .ref (q 0)), (1, .int p1), (2, .int p2)]) hx hb dX7_cut_11 rfl hl (by decide) rfl (fun ls hl => ?_)
    exact K_12 13 _ _ ls g F (p1) (p2) (0) hP hD hS (lv_sub hl [1, 2, 3, 0] rfl) hsp
  · have hsp := z_t c3 hsp
    refine lv_iconst (v := 0) hx hb dX7_cut_8 (by decide) ?_
    obtain ⟨rfl, rfl, rfl⟩ := z_i3 hsp
    exact hret _ _ ls 9 dX7_cut_9 rfl hP hD hS
