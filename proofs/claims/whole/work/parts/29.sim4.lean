/-! simulation 4: the end of a tick, sending -/
theorem bd_z {N : Nat} {x : Int32} (hN : N < 2 ^ 31) (h : bd N x) : (x ≤ 0) ↔ x = 0 := by
  obtain ⟨a, a1, rfl⟩ := h
  constructor
  · intro h
    rcases Nat.eq_zero_or_pos a with e | e
    · rw [e, nI_0]
    · exact absurd h (nI_nle e (by omega))
  · intro h; rw [h]; decide
theorem isW_sim (g : zF) (F : Nat → zF) {j : Nat} (hj : j < 12) {gM gB mk gI : zF} (mx : zF) (hM : MI gM gB mk gI) : s_X7_isWhole g (put F j gM mk mx gI) (nI j) = s_X4_isWhole gM gB := by
  unfold s_X7_isWhole s_X4_isWhole
  simp -implicitDefEqProofs only [nj_n hj, nj_cl hj, nj_l hj, or_self, if_false, zl_e, put_r11, put_r12, put_r13, put_r16, put_r21, put_r27, put_r28, put_r22, put_r23, put_r24, put_r25, put_r26, put_r17, put_r18, put_r19, put_r20, put_w11, put_w12, put_w13, put_w16, put_w21, put_w27, put_w28, put_w22, put_w23, put_w24, put_w25, put_w26, put_w17, put_w18, put_w19, put_w20, dg_0, dg_1, dg_2, dg_3, dg_4, dg_5, dg_6, dg_7, dg_8, dg_29, dg_30, rank_p g F hj, zb1_s, bd_z (show 9999 < 2 ^ 31 by decide) hM.2.2.1, ← hM.1]
theorem isW_v (gM gB : zF) : s_X4_isWhole gM gB = some (if gM 6 = 0 then 0 else if gB 2 = gM 7 then 1 else 0) := by
  unfold s_X4_isWhole
  by_cases c : gM 6 = 0
  · rw [if_pos c, if_pos c]
  · rw [if_neg c, if_neg c]
    by_cases c2 : gB 2 = gM 7
    · rw [if_pos c2, if_pos c2]
    · rw [if_neg c2, if_neg c2]
theorem fin_56 {gR g : zF} (gD : zF) (F : Nat → zF) {j : Nat} (hj : j < 12) {gM gB mk gI : zF} (mx : zF) (hM : MI gM gB mk gI) : ∃ gM', s_X4_end_b56 gB gR gM gI gD (g 6) = some (gM', gI, gD) ∧ s_X7_finish_b69 (dg g gD) (put F j gM mk mx gI) (nI j) = some (dg g gD, put F j gM' mk mx gI) ∧ MI gM' gB mk gI ∧ KP gM gM' := by
  unfold s_X4_end_b56 s_X7_finish_b69 s_X4_isWholeOf
  simp -implicitDefEqProofs only [nj_n hj, nj_cl hj, nj_l hj, or_self, if_false, zl_e, put_r11, put_r12, put_r13, put_r16, put_r21, put_r27, put_r28, put_r22, put_r23, put_r24, put_r25, put_r26, put_r17, put_r18, put_r19, put_r20, put_w11, put_w12, put_w13, put_w16, put_w21, put_w27, put_w28, put_w22, put_w23, put_w24, put_w25, put_w26, put_w17, put_w18, put_w19, put_w20, dg_0, dg_1, dg_2, dg_3, dg_4, dg_5, dg_6, dg_7, dg_8, dg_29, dg_30, bd_z (show 9999 < 2 ^ 31 by decide) hM.2.2.2.2.1, isW_sim _ F hj mx hM]
  rw [isW_v]
  by_cases c1 : gM 11 = 0
  · exact ⟨gM, by rw [if_pos c1], by rw [if_pos c1], hM, KP_rf gM⟩
  · by_cases c2 : g 6 + 1 < gM 12
    · exact ⟨gM, by rw [if_neg c1, if_pos c2], by rw [if_neg c1, if_pos c2], hM, KP_rf gM⟩
    · by_cases c3 : gM 6 = gM 11
      · generalize (if gM 6 = 0 then (0 : Int32) else if gB 2 = gM 7 then 1 else 0) = v
        by_cases v0 : v = 0
        · exact ⟨gM, by rw [if_neg c1, if_neg c2, if_pos c3, zb1_s, if_pos v0, zb1_s, if_pos rfl], by rw [if_neg c1, if_neg c2, if_pos c3, zb1_s, if_pos v0], hM, KP_rf gM⟩
        · refine ⟨va_up gM 9 (gM 11), by rw [if_neg c1, if_neg c2, if_pos c3, zb1_s, if_neg v0, zb1_s, if_neg one_ne], by rw [if_neg c1, if_neg c2, if_pos c3, zb1_s, if_neg v0, c3], ?_, ⟨rfl, rfl, rfl, rfl, rfl⟩⟩
          obtain ⟨m1, m2, m3, m4, m5, m6, m7⟩ := hM
          exact ⟨m1, m2, m3, m4, m5, m6, m7⟩
      · exact ⟨gM, by rw [if_neg c1, if_neg c2, if_neg c3, zb1_s, if_pos rfl], by rw [if_neg c1, if_neg c2, if_neg c3], hM, KP_rf gM⟩
theorem fin_57 {gR g : zF} (gD : zF) (F : Nat → zF) {j : Nat} (hj : j < 12) {gM gB mk gI : zF} (mx : zF) (hM : MI gM gB mk gI) {m : Nat} (m1 : 1 ≤ m) (m2 : m ≤ 1024) : ∃ gM' gI' gD', (zb2 (s_X2_begin gI gD (nI m) (g 6 + 1)) fun (gI9 : zF) (gD10 : zF) => (s_X4_end_b56 gB gR gM gI9 gD10 (g 6))) = some (gM', gI', gD') ∧ s_X7_finish_b57 (dg g gD) (put F j gM mk mx gI) (nI j) (nI m) (nI j) = some (dg g gD', put F j gM' mk mx gI') ∧ MI gM' gB mk gI' ∧ KP gM gM' := by
  obtain ⟨gM', o1, o2, o3, o4⟩ := fin_56 (gR := gR) (g := g) (drD gD) F hj mx (MI_I hM (bg_SI gI gD m1 m2 (g 6 + 1)))
  refine ⟨gM', bgI gI gD (nI m) (g 6 + 1), drD gD, ?_, ?_, o3, o4⟩
  · rw [bgC gI gD m1 m2, zb2_s]; exact o1
  · unfold s_X7_finish_b57
    simp -implicitDefEqProofs only [nj_n hj, nj_cl hj, nj_l hj, or_self, if_false, zl_e, put_r11, put_r12, put_r13, put_r16, put_r21, put_r27, put_r28, put_r22, put_r23, put_r24, put_r25, put_r26, put_r17, put_r18, put_r19, put_r20, put_w11, put_w12, put_w13, put_w16, put_w21, put_w27, put_w28, put_w22, put_w23, put_w24, put_w25, put_w26, put_w17, put_w18, put_w19, put_w20, dg_0, dg_1, dg_2, dg_3, dg_4, dg_5, dg_6, dg_7, dg_8, dg_29, dg_30, bg7 g gD F hj gM mk mx gI m1 m2, zb2_s]
    exact o2
theorem end_sim {gR g : zF} (hR : RU gR g) (gD : zF) (F : Nat → zF) {j : Nat} (hj : j < 12) {gM gB mk gI : zF} (mx : zF) (hM : MI gM gB mk gI) : ∃ gM' gI' gD', s_X4_end gM gB gI gR gD (g 6) = some (gM', gI', gD') ∧ s_X7_finish (dg g gD) (put F j gM mk mx gI) (nI j) = some (dg g gD', put F j gM' mk mx gI') ∧ MI gM' gB mk gI' ∧ KP gM gM' := by
  obtain ⟨-, -, h3, -, -, ⟨hi, i1, i2, hh⟩, -⟩ := hR
  obtain ⟨sp, s1, s2, hs⟩ := hM.2.2.2.2.2.2
  unfold s_X4_end s_X7_finish
  simp -implicitDefEqProofs only [nj_n hj, nj_cl hj, nj_l hj, or_self, if_false, zl_e, put_r11, put_r12, put_r13, put_r16, put_r21, put_r27, put_r28, put_r22, put_r23, put_r24, put_r25, put_r26, put_r17, put_r18, put_r19, put_r20, put_w11, put_w12, put_w13, put_w16, put_w21, put_w27, put_w28, put_w22, put_w23, put_w24, put_w25, put_w26, put_w17, put_w18, put_w19, put_w20, dg_0, dg_1, dg_2, dg_3, dg_4, dg_5, dg_6, dg_7, dg_8, dg_29, dg_30, h3, hh]
  have e2 : (2 : Int32) = nI 2 := rfl
  by_cases c : g 6 + 1 - gI 1 < gI 0
  · obtain ⟨gM', o1, o2, o3, o4⟩ := fin_56 (gR := gR) (g := g) gD F hj mx hM
    exact ⟨gM', gI, gD, by rw [if_pos c]; exact o1, by rw [if_pos c]; exact o2, o3, o4⟩
  · rw [if_neg c, if_neg c, hs, e2, pk_mul, pk_mul]
    unfold zMin
    by_cases c2 : 2 * sp ≤ hi
    · obtain ⟨gM', gI', gD', o1, o2, o3, o4⟩ := fin_57 (gR := gR) (g := g) gD F hj mx hM (m := 2 * sp) (by omega) (by omega)
      refine ⟨gM', gI', gD', ?_, ?_, o3, o4⟩
      · rw [if_neg (nI_nlt (by omega) (by omega)), Nat.mul_comm sp 2]; exact o1
      · rw [if_pos (nI_le c2 (by omega))]; exact o2
    · obtain ⟨gM', gI', gD', o1, o2, o3, o4⟩ := fin_57 (gR := gR) (g := g) gD F hj mx hM (m := hi) i1 i2
      refine ⟨gM', gI', gD', ?_, ?_, o3, o4⟩
      · rw [if_pos (nI_lt (by omega) (by omega))]; exact o1
      · rw [if_neg (nI_ge (by omega) (by omega))]; exact o2
theorem Lo_x {a b : Int32} (ha : Lo12 a) (hb : Lo12 b) : Lo12 (a ^^^ b) := fun i hi => by rw [b_xor, ha i hi, hb i hi]; rfl
theorem Lo_0 : Lo12 0 := fun i _ => b_0 i
theorem BI_lo {mk : zF} (h : BI mk) {i : Nat} (hi : i < 12) : Lo12 (mk i) := by
  by_cases h0 : mk i = 0
  · rw [h0]; exact Lo_0
  · exact fun k hk => (h i hi h0).2.1 k (by omega)
theorem mixN_lo {mk mx : zF} (hB : BI mk) (bits : Int32) : ∀ c pl p, c ≤ 12 → Lo12 p.1 → Lo12 (mixN mk mx bits c pl p).1
  | 0, pl, p, _, hp => hp
  | c + 1, pl, p, hc, hp => by
    rw [mixN]
    by_cases h0 : mk c = 0
    · rw [if_pos h0]; exact mixN_lo hB bits c pl p (by omega) hp
    · rw [if_neg h0]
      refine mixN_lo hB bits c (pl + 1) _ (by omega) ?_
      by_cases hb : bt bits pl = true
      · rw [if_pos hb]; exact Lo_x hp (BI_lo hB (by omega))
      · rw [if_neg hb]; exact hp
theorem mixE_lo {mk mx : zF} (hB : BI mk) {p : Int32 × Int32} (hp : Lo12 p.1) (hex : ∃ i, i < 12 ∧ ¬ mk i = 0) : Lo12 (mixE mk mx p).1 := by
  unfold mixE
  by_cases h0 : p.1 = 0
  · rw [if_pos h0]
    obtain ⟨h, e⟩ := hN_some 12 hex
    rw [e]
    exact BI_lo hB (hN_lt _ _ _ _ e).1
  · rw [if_neg h0]; exact hp
theorem mixE_cg {mk mx mk' mx' : zF} (h1 : ∀ i, i < 12 → mk i = mk' i) (h2 : ∀ i, i < 12 → mx i = mx' i) (p : Int32 × Int32) : mixE mk mx p = mixE mk' mx' p := by
  unfold mixE
  by_cases h0 : p.1 = 0
  · rw [if_pos h0, if_pos h0, hN_cg 12 h1]
    cases e : hN mk' 0 12 with
    | none => rfl
    | some h =>
      have hh := (hN_lt _ _ _ _ e).1
      dsimp only
      rw [h1 h hh, h2 h hh]
  · rw [if_neg h0, if_neg h0]
def mxP (mk mx gD : zF) : Int32 × Int32 := mixE mk mx (mixN mk mx (drA (gD 0) 4096) 12 0 (0, 0))
theorem mk7_p (g gD : zF) (F : Nat → zF) {j : Nat} (hj : j < 12) (gM mk mx gI : zF) (hex : ∃ i, i < 12 ∧ ¬ mk i = 0) : s_X7_makeMix (dg g gD) (put F j gM mk mx gI) (nI j) = some (dg g (drD gD), put (hF F j (mxP mk mx gD)) j gM mk mx gI) := by
  have c4 := colp_14 F j gM mk mx gI
  have c5 := colp_15 F j gM mk mx gI
  obtain ⟨i, i1, i2⟩ := hex
  rw [mk7_e _ _ hj ⟨i, i1, by rw [c4 i i1]; exact i2⟩, dg_0, dg_dr, mixN_cg _ 12 c4 c5, mixE_cg c4 c5]
  unfold hF
  rw [put_w36, put_w37]
  rfl
def lF (F : Nat → zF) (j : Nat) (gM : zF) (rk : Int32) : Nat → zF := zu (zu (zu (zu (zu (zu (zu F 31 j 0) 32 j (gM 6)) 33 j (gM 7)) 34 j (gM 8)) 35 j rk) 38 j (gM 11)) 39 j (gM 12)
theorem lF_o (F : Nat → zF) (j : Nat) (gM : zF) (rk : Int32) (k x : Nat) (h : k < 31 ∨ 39 < k ∨ x ≠ j) : lF F j gM rk k x = F k x := by
  simp only [lF, zu_ap]
  rcases h with h | h | h
  · have : ∀ c, 31 ≤ c → k ≠ c := fun c hc => by omega
    simp [this]
  · have : ∀ c, c ≤ 39 → k ≠ c := fun c hc => by omega
    simp [this]
  · simp [h]
def LV (gM : zF) (rk : Int32) (F : Nat → zF) (j : Nat) : Prop := F 32 j = gM 6 ∧ F 33 j = gM 7 ∧ F 34 j = gM 8 ∧ F 35 j = rk ∧ F 38 j = gM 11 ∧ F 39 j = gM 12
theorem lF_v (F : Nat → zF) (j : Nat) (gM : zF) (rk : Int32) : LV gM rk (lF F j gM rk) j ∧ lF F j gM rk 31 j = 0 := by
  refine ⟨⟨?_, ?_, ?_, ?_, ?_, ?_⟩, ?_⟩ <;> simp [lF, zu_ap]
theorem LV_u {gM : zF} {rk : Int32} {F : Nat → zF} {j : Nat} (h : LV gM rk F j) {k : Nat} (hk : k = 31 ∨ k = 36 ∨ k = 37) (v : Int32) : LV gM rk (zu F k j v) j := by
  obtain ⟨h1, h2, h3, h4, h5, h6⟩ := h
  rcases hk with rfl | rfl | rfl <;> exact ⟨by simpa [zu_ap] using h1, by simpa [zu_ap] using h2, by simpa [zu_ap] using h3, by simpa [zu_ap] using h4, by simpa [zu_ap] using h5, by simpa [zu_ap] using h6⟩
def adr (gM gB gL : zF) (k : Int32) : zF := va_up (va_up (va_up (va_up (va_up (va_up (va_up gL 0 k) 1 (gM 6)) 2 (gB 2)) 3 (gM 7)) 4 (gM 8)) 7 (gM 11)) 8 (gM 12)
theorem adrC (gM gB gL : zF) (k : Int32) : s_X4_address gM gB gL k = some (adr gM gB gL k) := by
  unfold s_X4_address adr
  simp -implicitDefEqProofs only [zl_e]
theorem adr_LT {gM gB mk gI : zF} (hM : MI gM gB mk gI) {gN : zF} (n6 : gN 6 = gM 6) (n7 : gN 7 = gM 7) (n8 : gN 8 = gM 8) (n11 : gN 11 = gM 11) (n12 : gN 12 = gM 12) (gL : zF) {k : Int32} {F : Nat → zF} {j : Nat} (hV : LV gM (gB 2) F j) (hk : F 31 j = k) (hm : k = 1 ∨ (F 36 j = gL 5 ∧ F 37 j = gL 6 ∧ Lo12 (gL 5))) : LT (adr gN gB gL k) F j := by
  obtain ⟨m1, m2, m3, m4, m5, m6, m7⟩ := hM
  obtain ⟨h1, h2, h3, h4, h5, h6⟩ := hV
  refine ⟨hk, Or.inr ⟨h1.trans n6.symm, h2.trans n7.symm, h3.trans n8.symm, h4, h5.trans n11.symm, h6.trans n12.symm, ?_, ?_, ?_, hm⟩⟩
  · show bd 9999 (gN 6); rw [n6]; exact m3
  · show bd 12 (gN 7); rw [n7]; exact m4
  · show bd 9999 (gN 11); rw [n11]; exact m5
