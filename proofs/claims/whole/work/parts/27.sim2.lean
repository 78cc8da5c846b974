/-! simulation 2: what a letter does -/
def tn (gM : zF) (x y : Int32) : zF := va_up (va_up gM 11 x) 12 y
theorem tn_6 (gM : zF) (x y : Int32) : tn gM x y 6 = gM 6 := rfl
theorem tn_7 (gM : zF) (x y : Int32) : tn gM x y 7 = gM 7 := rfl
theorem tn_8 (gM : zF) (x y : Int32) : tn gM x y 8 = gM 8 := rfl
theorem tn_10 (gM : zF) (x y : Int32) : tn gM x y 10 = gM 10 := rfl
theorem tn_11 (gM : zF) (x y : Int32) : tn gM x y 11 = x := rfl
theorem tn_12 (gM : zF) (x y : Int32) : tn gM x y 12 = y := rfl
theorem tn_13 (gM : zF) (x y : Int32) : tn gM x y 13 = gM 13 := rfl
theorem tn_14 (gM : zF) (x y : Int32) : tn gM x y 14 = gM 14 := rfl
theorem tn_17 (gM : zF) (x y : Int32) : tn gM x y 17 = gM 17 := rfl
theorem tn_w (gM : zF) (x y : Int32) {k : Nat} (h1 : k ≠ 11) (h2 : k ≠ 12) (v : Int32) : va_up (tn gM x y) k v = tn (va_up gM k v) x y := by
  unfold tn
  rw [up_cm _ (Ne.symm h2), up_cm gM (Ne.symm h1)]
theorem tn_self (gM : zF) : tn gM (gM 11) (gM 12) = gM := by
  funext k
  simp only [tn, up_ap]
  by_cases h : k = 12
  · simp [h]
  · by_cases h2 : k = 11
    · simp [h2]
    · simp [h, h2]
theorem own_tn {gM gB mk mx : zF} {a d v : Int32} {gM' gB' mk' mx' : zF} (x y : Int32) (h : s_X4_takeOwnMix gM gB mk mx a d = some (v, gM', gB', mk', mx')) : s_X4_takeOwnMix (tn gM x y) gB mk mx a d = some (v, tn gM' x y, gB', mk', mx') := by
  unfold s_X4_takeOwnMix at h ⊢
  simp -implicitDefEqProofs only [zl_e, takeIn_e, sum_e, empty_e, tn_w _ _ _ (show 10 ≠ 11 by decide) (show 10 ≠ 12 by decide), tn_w _ _ _ (show 17 ≠ 11 by decide) (show 17 ≠ 12 by decide), tn_7, tn_8, tn_17] at h ⊢
  revert h
  cases tpN (rdN mk mx 12 (a, d)).1 12 with
  | none =>
    intro h
    dsimp only at h ⊢
    rw [zb4_s, if_pos rfl] at h ⊢
    cases h; rfl
  | some hd =>
    intro h
    dsimp only at h ⊢
    rw [zb4_s, if_neg one_ne] at h ⊢
    by_cases c1 : va_up gB 2 (gB 2 + 1) 2 = va_up gM 10 (-1) 7
    · rw [if_pos c1, zb1_s] at h ⊢
      by_cases c2 : smN (tiX mk mx a d hd) 12 = va_up gM 10 (-1) 8
      · rw [if_pos c2] at h ⊢
        cases h; rfl
      · rw [if_neg c2, zb3_s] at h ⊢
        cases h; rfl
    · rw [if_neg c1] at h ⊢
      cases h; rfl
theorem rank_p (g : zF) (F : Nat → zF) {j : Nat} (hj : j < 12) (gM mk mx gI : zF) : s_X7_rank g (put F j gM mk mx gI) (nI j) = some (nI (ctN mk 12)) := by
  rw [rank_e g _ hj, cnN_cg 12 (colp_14 F j gM mk mx gI), cn_ct]
def TT (g : zF) : Prop := ∃ t : Nat, t ≤ 100000 ∧ g 6 = nI t
theorem MI_10 {gM gB mk gI : zF} (h : MI gM gB mk gI) {v : Int32} (hv : v = -1 ∨ 0 ≤ v) : MI (va_up gM 10 v) gB mk gI := by
  obtain ⟨m1, m2, m3, m4, m5, m6, m7⟩ := h
  exact ⟨m1, m2, m3, m4, m5, hv, m7⟩
theorem MI_I {gM gB mk gI gI' : zF} (h : MI gM gB mk gI) (hv : SpI gI') : MI gM gB mk gI' := by
  obtain ⟨m1, m2, m3, m4, m5, m6, m7⟩ := h
  exact ⟨m1, m2, m3, m4, m5, m6, hv⟩
theorem tl_fin {gR g : zF} (hR : RU gR g) (hT : TT g) (gD : zF) (F : Nat → zF) {j : Nat} (hj : j < 12) {gM gB mk gI : zF} (mx gH : zF) (hM : MI gM gB mk gI) : ∃ gM' gD', (∀ x y, s_X4_takeTell_b85 gB gR gH (tn gM x y) gI gD (g 6) 1 = some (tn gM' x y, gI, gD')) ∧ s_X7_tell_b70 (dg g gD) (put F j gM mk mx gI) (nI j) 1 = some (dg g gD', put F j gM' mk mx gI) ∧ MI gM' gB mk gI ∧ KP gM gM' := by
  obtain ⟨-, -, -, h4, -, -, ⟨w, w1, w2, hw⟩⟩ := hR
  obtain ⟨t, ht, ht6⟩ := hT
  have h0 : ¬ nI w = 0 := nI_ne0 (by omega) (by omega)
  unfold s_X4_takeTell_b85 s_X7_tell_b70
  simp -implicitDefEqProofs only [nj_n hj, nj_cl hj, nj_l hj, or_self, if_false, zl_e, put_r11, put_r12, put_r13, put_r16, put_r21, put_r27, put_r28, put_r22, put_r23, put_r24, put_r25, put_r26, put_r17, put_r18, put_r19, put_r20, put_w11, put_w12, put_w13, put_w16, put_w21, put_w27, put_w28, put_w22, put_w23, put_w24, put_w25, put_w26, put_w17, put_w18, put_w19, put_w20, dg_0, dg_1, dg_2, dg_3, dg_4, dg_5, dg_6, dg_7, dg_8, dg_29, dg_30, h4, hw, tn_10, if_neg one_ne, below_d gD (n1_le w1 (by omega)) h0, draw7_d g gD _ h0, zb2_s, tn_w _ _ _ (show 10 ≠ 11 by decide) (show 10 ≠ 12 by decide)]
  by_cases c : gM 10 = -1
  · refine ⟨va_up gM 10 (g 6 + 1 + drA (gD 0) (nI w)), drD gD, fun x y => ?_, ?_, MI_10 hM (Or.inr ?_), ⟨rfl, rfl, rfl, rfl, rfl⟩⟩
    · rw [if_pos c]
    · rw [if_neg (by rw [c]; decide)]
    · obtain ⟨r, r1, r2⟩ := drA_bd (gD 0) (show 0 < w by omega) (by omega)
      rw [r2, ht6, nI_s, nI_add]
      exact nI_pos' (by omega)
  · refine ⟨gM, gD, fun x y => ?_, ?_, hM, KP_rf gM⟩
    · rw [if_neg c]
    · rw [if_pos (hM.2.2.2.2.2.1.resolve_left c)]
theorem tl_not (gR g gD : zF) (F : Nat → zF) (j : Nat) (gM gB mk gI mx gH : zF) : (∀ x y, s_X4_takeTell_b85 gB gR gH (tn gM x y) gI gD (g 6) 0 = some (tn gM x y, gI, gD)) ∧ s_X7_tell_b70 (dg g gD) (put F j gM mk mx gI) (nI j) 0 = some (dg g gD, put F j gM mk mx gI) := by
  unfold s_X4_takeTell_b85 s_X7_tell_b70
  exact ⟨fun x y => by rw [if_pos rfl], by rw [if_pos rfl]⟩
theorem tl_39 {gR g : zF} (hR : RU gR g) (hT : TT g) (gD : zF) (F : Nat → zF) {j : Nat} (hj : j < 12) {gM gB mk gI : zF} (mx gH : zF) (hM : MI gM gB mk gI) : ∃ gM' gI' gD', (∀ x y, s_X4_takeTell_b39 gB gR gH (tn gM x y) gI gD (g 6) = some (tn gM' x y, gI', gD')) ∧ s_X7_tell_b34 (dg g gD) (put F j gM mk mx gI) (nI j) (gH 1) (gH 2) (gB 2) = some (dg g gD', put F j gM' mk mx gI') ∧ MI gM' gB mk gI' ∧ KP gM gM' := by
  have hM2 := MI_I hM (st_SI hR hM.2.2.2.2.2.2 gD (g 6))
  obtain ⟨n1, n2⟩ := tl_not gR g (stD gI gR gD) F j gM gB mk (stI gI gR gD (g 6)) mx gH
  obtain ⟨gM', gD', f1, f2, f3, f4⟩ := tl_fin hR hT (stD gI gR gD) F hj mx gH hM2
  unfold s_X4_takeTell_b39 s_X7_tell_b34 s_X4_takeTell_b80 s_X4_takeTell_b84 s_X7_tell_b65 s_X7_tell_b69
  simp -implicitDefEqProofs only [stC hR, st7 hR gD F hj, zb2_s, nj_n hj, nj_cl hj, nj_l hj, or_self, if_false, zl_e, put_r11, put_r12, put_r13, put_r16, put_r21, put_r27, put_r28, put_r22, put_r23, put_r24, put_r25, put_r26, put_r17, put_r18, put_r19, put_r20, put_w11, put_w12, put_w13, put_w16, put_w21, put_w27, put_w28, put_w22, put_w23, put_w24, put_w25, put_w26, put_w17, put_w18, put_w19, put_w20, dg_0, dg_1, dg_2, dg_3, dg_4, dg_5, dg_6, dg_7, dg_8, dg_29, dg_30, tn_6]
  by_cases c1 : gH 1 < gM 6
  · exact ⟨gM', _, gD', fun x y => by rw [if_pos c1]; exact f1 x y, by rw [if_pos c1]; exact f2, f3, f4⟩
  · by_cases c2 : gH 1 = gM 6
    · by_cases c3 : gB 2 ≤ gH 2
      · exact ⟨gM, _, stD gI gR gD, fun x y => by rw [if_neg c1, if_pos c2, if_pos c3]; exact n1 x y, by rw [if_neg c1, if_pos c2, if_pos c3]; exact n2, hM2, KP_rf gM⟩
      · exact ⟨gM', _, gD', fun x y => by rw [if_neg c1, if_pos c2, if_neg c3]; exact f1 x y, by rw [if_neg c1, if_pos c2, if_neg c3]; exact f2, f3, f4⟩
    · exact ⟨gM, _, stD gI gR gD, fun x y => by rw [if_neg c1, if_neg c2]; exact n1 x y, by rw [if_neg c1, if_neg c2]; exact n2, hM2, KP_rf gM⟩
theorem tell_sim {gR g : zF} (hR : RU gR g) (hT : TT g) (gD : zF) (F : Nat → zF) {j : Nat} (hj : j < 12) {gM gB mk gI : zF} (mx gH : zF) (hM : MI gM gB mk gI) : ∃ gM' gI' gD', (∀ x y, s_X4_takeTell (tn gM x y) gB gI gR gD gH (g 6) = some (tn gM' x y, gI', gD')) ∧ s_X7_tell (dg g gD) (put F j gM mk mx gI) (nI j) (gH 1) (gH 2) = some (dg g gD', put F j gM' mk mx gI') ∧ MI gM' gB mk gI' ∧ KP gM gM' := by
  obtain ⟨gM', gI', gD', f1, f2, f3, f4⟩ := tl_39 hR hT gD F hj mx gH hM
  unfold s_X4_takeTell s_X7_tell
  rw [rank_p _ F hj, ← hM.1]
  simp -implicitDefEqProofs only [zb1_s, nj_n hj, nj_cl hj, nj_l hj, or_self, if_false, zl_e, put_r11, put_r12, put_r13, put_r16, put_r21, put_r27, put_r28, put_r22, put_r23, put_r24, put_r25, put_r26, put_r17, put_r18, put_r19, put_r20, put_w11, put_w12, put_w13, put_w16, put_w21, put_w27, put_w28, put_w22, put_w23, put_w24, put_w25, put_w26, put_w17, put_w18, put_w19, put_w20, dg_0, dg_1, dg_2, dg_3, dg_4, dg_5, dg_6, dg_7, dg_8, dg_29, dg_30, tn_6]
  by_cases c1 : gH 1 = gM 6
  · by_cases c2 : gH 2 = gB 2
    · exact ⟨gM, va_up gI 3 (gI 3 + 1), gD, fun x y => by rw [if_pos c1, if_pos c2], by rw [if_pos c1, if_pos c2], MI_I hM hM.2.2.2.2.2.2, KP_rf gM⟩
    · exact ⟨gM', gI', gD', fun x y => by rw [if_pos c1, if_neg c2]; exact f1 x y, by rw [if_pos c1, if_neg c2]; exact f2, f3, f4⟩
  · exact ⟨gM', gI', gD', fun x y => by rw [if_neg c1]; exact f1 x y, by rw [if_neg c1]; exact f2, f3, f4⟩
