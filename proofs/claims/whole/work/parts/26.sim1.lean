/-! simulation 1: intervals, stirring, own mixes -/
def bd (N : Nat) (x : Int32) : Prop := ∃ a : Nat, a ≤ N ∧ x = nI a
def SpI (gI : zF) : Prop := ∃ sp : Nat, 1 ≤ sp ∧ sp ≤ 1024 ∧ gI 0 = nI sp
def RU (gR g : zF) : Prop := g 1 = gR 0 ∧ g 2 = gR 1 ∧ g 3 = gR 2 ∧ g 4 = gR 3 ∧ (∃ a : Nat, 1 ≤ a ∧ a ≤ 64 ∧ gR 1 = nI a) ∧ (∃ a : Nat, 1 ≤ a ∧ a ≤ 1024 ∧ gR 2 = nI a) ∧ (∃ a : Nat, 1 ≤ a ∧ a ≤ 32 ∧ gR 3 = nI a)
def MI (gM gB mk gI : zF) : Prop := gB 2 = nI (ctN mk 12) ∧ BI mk ∧ bd 9999 (gM 6) ∧ bd 12 (gM 7) ∧ bd 9999 (gM 11) ∧ (gM 10 = -1 ∨ 0 ≤ gM 10) ∧ SpI gI
def KQ (gM gM' : zF) : Prop := gM' 13 = gM 13 ∧ gM' 14 = gM 14 ∧ gM' 11 = gM 11 ∧ gM' 12 = gM 12
def KP (gM gM' : zF) : Prop := gM' 6 = gM 6 ∧ KQ gM gM'
theorem KP_rf (gM : zF) : KP gM gM := ⟨rfl, rfl, rfl, rfl, rfl⟩
theorem KP_tr {a b c : zF} (h1 : KP a b) (h2 : KP b c) : KP a c := ⟨h2.1.trans h1.1, h2.2.1.trans h1.2.1, h2.2.2.1.trans h1.2.2.1, h2.2.2.2.1.trans h1.2.2.2.1, h2.2.2.2.2.trans h1.2.2.2.2⟩
theorem nI_nat (x : Int32) : x = nI x.toBitVec.toNat := Int32.toBitVec_inj.mp (BitVec.eq_of_toNat_eq (by rw [pk_tn (BitVec.isLt _)]))
theorem drA_bd (s : Int32) {m : Nat} (h0 : 0 < m) (hm : m < 2 ^ 31) : ∃ r, r < m ∧ drA s (nI m) = nI r := by
  have h := pk_ushr (drS s) 16 16 (by decide)
  have hl : (drS s).toBitVec.toNat < 2 ^ 32 := BitVec.isLt _
  unfold drA zRm zUsr
  rw [nI_nat ((drS s).toUInt32 >>> (Int32.toUInt32 16 &&& Int32.toUInt32 31)).toInt32, h, pk_rem (by omega) h0 hm]
  exact ⟨_, Nat.mod_lt _ h0, rfl⟩
def bgI (gI gD : zF) (p1 p2 : Int32) : zF := va_up (va_up (va_up (va_up gI 0 p1) 1 p2) 3 0) 2 (p2 + p1 / 2 + drA (gD 0) (p1 - p1 / 2))
theorem half_ok {sp : Nat} (h1 : 1 ≤ sp) (h2 : sp ≤ 1024) : 1 ≤ nI sp - nI sp / 2 ∧ ¬ nI sp - nI sp / 2 = 0 := by
  rw [half_e (by omega)]
  exact ⟨n1_le (by omega) (by omega), nI_ne0 (by omega) (by omega)⟩
theorem bgC (gI gD : zF) {sp : Nat} (h1 : 1 ≤ sp) (h2 : sp ≤ 1024) (p2 : Int32) : s_X2_begin gI gD (nI sp) p2 = some (bgI gI gD (nI sp) p2, drD gD) := by
  unfold s_X2_begin
  simp -implicitDefEqProofs only [zl_e, below_d gD (half_ok h1 h2).1 (half_ok h1 h2).2, zb2_s, bgI]
theorem bg7 (g gD : zF) (F : Nat → zF) {j : Nat} (hj : j < 12) (gM mk mx gI : zF) {sp : Nat} (h1 : 1 ≤ sp) (h2 : sp ≤ 1024) (p2 : Int32) : s_X7_begin (dg g gD) (put F j gM mk mx (va_up gI 0 (nI sp))) (nI j) p2 = some (dg g (drD gD), put F j gM mk mx (bgI gI gD (nI sp) p2)) := by
  unfold s_X7_begin
  have e : va_up (va_up (va_up gI 0 (nI sp)) 1 p2) 3 0 0 = nI sp := rfl
  simp -implicitDefEqProofs only [nj_n hj, nj_cl hj, nj_l hj, or_self, if_false, zl_e, put_r11, put_r12, put_r13, put_r16, put_r21, put_r27, put_r28, put_r22, put_r23, put_r24, put_r25, put_r26, put_r17, put_r18, put_r19, put_r20, put_w11, put_w12, put_w13, put_w16, put_w21, put_w27, put_w28, put_w22, put_w23, put_w24, put_w25, put_w26, put_w17, put_w18, put_w19, put_w20, dg_0, dg_1, dg_2, dg_3, dg_4, dg_5, dg_6, dg_7, dg_8, dg_29, dg_30, e, draw7_d g gD _ (half_ok h1 h2).2, zb2_s, bgI]
theorem bg_SI (gI gD : zF) {sp : Nat} (h1 : 1 ≤ sp) (h2 : sp ≤ 1024) (p2 : Int32) : SpI (bgI gI gD (nI sp) p2) := ⟨sp, h1, h2, rfl⟩
def stI (gI gR gD : zF) (t : Int32) : zF := if gI 0 ≤ gR 1 then gI else bgI gI gD (gR 1) (t + 1)
def stD (gI gR gD : zF) : zF := if gI 0 ≤ gR 1 then gD else drD gD
theorem stC {gR g : zF} (hR : RU gR g) (gM gI gD : zF) (t : Int32) : s_X4_stir gM gI gR gD t = some (stI gI gR gD t, stD gI gR gD) := by
  obtain ⟨-, -, -, -, ⟨a, a1, a2, ha⟩, -, -⟩ := hR
  unfold s_X4_stir stI stD
  by_cases h : gI 0 ≤ gR 1
  · rw [if_pos h, if_pos h, if_pos h]
  · rw [if_neg h, if_neg h, if_neg h, ha, bgC gI gD a1 (by omega), zb2_s]
theorem st7 {gR g : zF} (hR : RU gR g) (gD : zF) (F : Nat → zF) {j : Nat} (hj : j < 12) (gM mk mx gI : zF) : s_X7_stir (dg g gD) (put F j gM mk mx gI) (nI j) = some (dg g (stD gI gR gD), put F j gM mk mx (stI gI gR gD (g 6))) := by
  obtain ⟨-, h2, -, -, ⟨a, a1, a2, ha⟩, -, -⟩ := hR
  unfold s_X7_stir stI stD
  simp -implicitDefEqProofs only [nj_n hj, nj_cl hj, nj_l hj, or_self, if_false, zl_e, put_r11, put_r12, put_r13, put_r16, put_r21, put_r27, put_r28, put_r22, put_r23, put_r24, put_r25, put_r26, put_r17, put_r18, put_r19, put_r20, put_w11, put_w12, put_w13, put_w16, put_w21, put_w27, put_w28, put_w22, put_w23, put_w24, put_w25, put_w26, put_w17, put_w18, put_w19, put_w20, dg_0, dg_1, dg_2, dg_3, dg_4, dg_5, dg_6, dg_7, dg_8, dg_29, dg_30, h2]
  by_cases h : gI 0 ≤ gR 1
  · rw [if_neg (Int32.not_lt.mpr h), if_pos h, if_pos h]
  · rw [if_pos (Int32.not_le.mp h), if_neg h, if_neg h, ha, bg7 g gD F hj gM mk mx gI a1 (by omega), zb2_s]
theorem st_SI {gR g : zF} (hR : RU gR g) {gI : zF} (h : SpI gI) (gD : zF) (t : Int32) : SpI (stI gI gR gD t) := by
  obtain ⟨-, -, -, -, ⟨a, a1, a2, ha⟩, -, -⟩ := hR
  unfold stI
  by_cases h2 : gI 0 ≤ gR 1
  · rw [if_pos h2]; exact h
  · rw [if_neg h2, ha]; exact bg_SI gI gD a1 (by omega) _
theorem up_cm {α : Type} (f : Nat → α) {a b : Nat} (h : a ≠ b) (x y : α) : va_up (va_up f a x) b y = va_up (va_up f b y) a x := by
  funext k
  simp only [up_ap]
  by_cases ha : k = a
  · subst ha; simp [h]
  · simp [ha]
theorem colp_14 (F : Nat → zF) (j : Nat) (gM mk mx gI : zF) : ∀ h, h < 12 → col (put F j gM mk mx gI) 14 j h = mk h := fun _ hh => put_14 F j gM mk mx gI hh
theorem colp_15 (F : Nat → zF) (j : Nat) (gM mk mx gI : zF) : ∀ h, h < 12 → col (put F j gM mk mx gI) 15 j h = mx h := fun _ hh => put_15 F j gM mk mx gI hh
theorem come_p (g : zF) (F : Nat → zF) {j : Nat} (hj : j < 12) (gM mk mx gI : zF) (hB : BI mk) {a : Int32} (ha : Lo12 a) (d : Int32) : s_X7_comesIn g (put F j gM mk mx gI) (nI j) a d = some (match tpN (rdN mk mx 12 (a, d)).1 12 with
    | none => (0, put F j gM mk mx gI)
    | some hd => if cnN (tiM mk mx a d hd) 12 = gM 7 ∧ ¬ smN (tiX mk mx a d hd) 12 = gM 8 then (1, put F j (va_up gM 17 (gM 17 + 1)) z0 z0 gI) else (1, put F j gM (tiM mk mx a d hd) (tiX mk mx a d hd) gI)) := by
  have c4 := colp_14 F j gM mk mx gI
  have c5 := colp_15 F j gM mk mx gI
  have r := rd_cg (a, d) 12 c4 c5
  rw [come_e g _ a d hj (by rw [r]; exact rd_lo hB ha 12 (by omega)), r]
  cases tpN (rdN mk mx 12 (a, d)).1 12 with
  | none => rfl
  | some hd =>
    have m4 := tiM_cg a d hd c4 c5
    have m5 := tiX_cg a d hd c4 c5
    simp only [cnN_cg 12 m4, smN_cg 12 m5, put_r12, put_r13, put_r26, put_w26, put_z2]
    rw [put_cg F j gM gI m4 m5]
theorem own_sim {gR g : zF} (hR : RU gR g) (gD : zF) (F : Nat → zF) {j : Nat} (hj : j < 12) {gM gB mk gI : zF} (mx : zF) (hM : MI gM gB mk gI) {a : Int32} (ha : Lo12 a) (d : Int32) : ∃ v gM' gB' mk' mx', s_X4_takeOwnMix gM gB mk mx a d = some (v, gM', gB', mk', mx') ∧ s_X7_own (dg g gD) (put F j gM mk mx gI) (nI j) a d = some (dg g (if v = 0 then gD else stD gI gR gD), put F j gM' mk' mx' (if v = 0 then gI else stI gI gR gD (g 6))) ∧ MI gM' gB' mk' gI ∧ KP gM gM' := by
  obtain ⟨m1, m2, m3, m4, m5, m6, m7⟩ := hM
  unfold s_X4_takeOwnMix s_X7_own
  rw [zl_e, takeIn_e, come_p _ F hj gM mk mx gI m2 ha d]
  cases ht : tpN (rdN mk mx 12 (a, d)).1 12 with
  | none =>
    refine ⟨0, va_up gM 10 (-1), gB, mk, mx, ?_, ?_, ⟨m1, m2, m3, m4, m5, Or.inl rfl, m7⟩, ⟨rfl, rfl, rfl, rfl, rfl⟩⟩
    · rw [zb4_s, if_pos rfl]
    · rw [zb2_s, if_pos rfl, if_pos rfl, if_pos rfl]
      unfold s_X7_own_b15
      simp -implicitDefEqProofs only [nj_n hj, nj_cl hj, nj_l hj, or_self, if_false, zl_e, put_r11, put_r12, put_r13, put_r16, put_r21, put_r27, put_r28, put_r22, put_r23, put_r24, put_r25, put_r26, put_r17, put_r18, put_r19, put_r20, put_w11, put_w12, put_w13, put_w16, put_w21, put_w27, put_w28, put_w22, put_w23, put_w24, put_w25, put_w26, put_w17, put_w18, put_w19, put_w20, dg_0, dg_1, dg_2, dg_3, dg_4, dg_5, dg_6, dg_7, dg_8, dg_29, dg_30]
  | some hd =>
    obtain ⟨b1, b2⟩ := ti_all (mx := mx) (d := d) m2 ha ht
    have e1 : va_up gB 2 (gB 2 + 1) 2 = cnN (tiM mk mx a d hd) 12 := by rw [up_ap, if_pos rfl, cn_ct, b2, m1, nI_s]
    have e2 : va_up gM 10 (-1) 7 = gM 7 := rfl
    have e3 : va_up gM 10 (-1) 8 = gM 8 := rfl
    have e4 : va_up gM 10 (-1) 17 = gM 17 := rfl
    dsimp only
    rw [zb4_s, if_neg one_ne, e1, e2, e3, e4, sum_e, empty_e]
    by_cases c1 : cnN (tiM mk mx a d hd) 12 = gM 7
    · by_cases c2 : smN (tiX mk mx a d hd) 12 = gM 8
      · refine ⟨1, va_up gM 10 (-1), va_up gB 2 (gB 2 + 1), tiM mk mx a d hd, tiX mk mx a d hd, ?_, ?_, ⟨by rw [e1, cn_ct], b1, m3, m4, m5, Or.inl rfl, m7⟩, ⟨rfl, rfl, rfl, rfl, rfl⟩⟩
        · rw [if_pos c1, zb1_s, if_pos c2]
        · rw [if_neg (fun h => h.2 c2), zb2_s, if_neg one_ne, st7 hR gD F hj, zb2_s, if_neg one_ne, if_neg one_ne]
          unfold s_X7_own_b15
          simp -implicitDefEqProofs only [nj_n hj, nj_cl hj, nj_l hj, or_self, if_false, zl_e, put_r11, put_r12, put_r13, put_r16, put_r21, put_r27, put_r28, put_r22, put_r23, put_r24, put_r25, put_r26, put_r17, put_r18, put_r19, put_r20, put_w11, put_w12, put_w13, put_w16, put_w21, put_w27, put_w28, put_w22, put_w23, put_w24, put_w25, put_w26, put_w17, put_w18, put_w19, put_w20, dg_0, dg_1, dg_2, dg_3, dg_4, dg_5, dg_6, dg_7, dg_8, dg_29, dg_30]
      · refine ⟨1, va_up (va_up gM 10 (-1)) 17 (gM 17 + 1), va_up (va_up gB 2 (gB 2 + 1)) 2 0, emp (tiM mk mx a d hd), emp (tiX mk mx a d hd), ?_, ?_, ⟨?_, ?_, m3, m4, m5, Or.inl rfl, m7⟩, ⟨rfl, rfl, rfl, rfl, rfl⟩⟩
        · rw [if_pos c1, zb1_s, if_neg c2, zb3_s, zl_e]
        · rw [if_pos ⟨c1, c2⟩, zb2_s, if_neg one_ne, st7 hR gD F hj, zb2_s, if_neg one_ne, if_neg one_ne]
          unfold s_X7_own_b15
          simp -implicitDefEqProofs only [nj_n hj, nj_cl hj, nj_l hj, or_self, if_false, zl_e, put_r11, put_r12, put_r13, put_r16, put_r21, put_r27, put_r28, put_r22, put_r23, put_r24, put_r25, put_r26, put_r17, put_r18, put_r19, put_r20, put_w11, put_w12, put_w13, put_w16, put_w21, put_w27, put_w28, put_w22, put_w23, put_w24, put_w25, put_w26, put_w17, put_w18, put_w19, put_w20, dg_0, dg_1, dg_2, dg_3, dg_4, dg_5, dg_6, dg_7, dg_8, dg_29, dg_30]
          rw [up_cm gM (by decide), put_cg F j _ _ (mk := z0) (mx := z0) (mk' := emp (tiM mk mx a d hd)) (mx' := emp (tiX mk mx a d hd)) (fun h hh => by simp [z0, emp, hh]) (fun h hh => by simp [z0, emp, hh])]
        · rw [up_ap, if_pos rfl, ct_z 12 (fun i hi => by simp [emp, hi]), nI_0]
        · exact BI_z (fun i hi => by simp [emp, hi])
    · refine ⟨1, va_up gM 10 (-1), va_up gB 2 (gB 2 + 1), tiM mk mx a d hd, tiX mk mx a d hd, ?_, ?_, ⟨by rw [e1, cn_ct], b1, m3, m4, m5, Or.inl rfl, m7⟩, ⟨rfl, rfl, rfl, rfl, rfl⟩⟩
      · rw [if_neg c1]
      · rw [if_neg (fun h => c1 h.1), zb2_s, if_neg one_ne, st7 hR gD F hj, zb2_s, if_neg one_ne, if_neg one_ne]
        unfold s_X7_own_b15
        simp -implicitDefEqProofs only [nj_n hj, nj_cl hj, nj_l hj, or_self, if_false, zl_e, put_r11, put_r12, put_r13, put_r16, put_r21, put_r27, put_r28, put_r22, put_r23, put_r24, put_r25, put_r26, put_r17, put_r18, put_r19, put_r20, put_w11, put_w12, put_w13, put_w16, put_w21, put_w27, put_w28, put_w22, put_w23, put_w24, put_w25, put_w26, put_w17, put_w18, put_w19, put_w20, dg_0, dg_1, dg_2, dg_3, dg_4, dg_5, dg_6, dg_7, dg_8, dg_29, dg_30]
