/-! simulation 3: mixes, letters at work -/
theorem keepC (gM gB mk mx : zF) (a b c : Int32) : s_X4_keep gM gB mk mx a b c = some (va_up (va_up (va_up gM 6 a) 7 b) 8 c, va_up gB 2 0, emp mk, emp mx) := by
  unfold s_X4_keep
  simp -implicitDefEqProofs only [zl_e, empty_e, zb3_s]
theorem MI_keep {gM gB mk gI : zF} (h : MI gM gB mk gI) {a b : Int32} (ha : bd 9999 a) (hb : bd 12 b) (c : Int32) : MI (va_up (va_up (va_up gM 6 a) 7 b) 8 c) (va_up gB 2 0) (emp mk) gI := by
  obtain ⟨m1, m2, m3, m4, m5, m6, m7⟩ := h
  refine ⟨?_, ?_, ha, hb, m5, m6, m7⟩
  · rw [up_ap, if_pos rfl, ct_z 12 (fun i hi => by simp [emp, hi]), nI_0]
  · exact BI_z (fun i hi => by simp [emp, hi])
theorem mx_27 {gR g : zF} (hR : RU gR g) (gD : zF) (F : Nat → zF) {j i : Nat} (hj : j < 12) (hi : i < 12) {gM gB mk gI : zF} (mx gH : zF) (hM : MI gM gB mk gI) (e2 : F 32 i = gH 1) (e3 : F 33 i = gH 3) (e4 : F 34 i = gH 4) (e6 : F 36 i = gH 5) (e7 : F 37 i = gH 6) (ha : Lo12 (gH 5)) : ∃ gM' gB' mk' mx' gI' gD', (∀ x y, s_X4_takeMix_b27 gR gH (tn gM x y) gB mk mx gI gD (g 6) = some (tn gM' x y, gB', mk', mx', gI', gD')) ∧ s_X7_mix_b56 (dg g gD) (put F j gM mk mx gI) (nI j) (nI i) = some (dg g gD', put F j gM' mk' mx' gI') ∧ MI gM' gB' mk' gI' ∧ KP gM gM' := by
  unfold s_X4_takeMix_b27 s_X7_mix_b56 s_X4_takeMix_b64 s_X4_takeMix_b65
  simp -implicitDefEqProofs only [nj_n hj, nj_cl hj, nj_l hj, or_self, if_false, zl_e, put_r11, put_r12, put_r13, put_r16, put_r21, put_r27, put_r28, put_r22, put_r23, put_r24, put_r25, put_r26, put_r17, put_r18, put_r19, put_r20, put_w11, put_w12, put_w13, put_w16, put_w21, put_w27, put_w28, put_w22, put_w23, put_w24, put_w25, put_w26, put_w17, put_w18, put_w19, put_w20, dg_0, dg_1, dg_2, dg_3, dg_4, dg_5, dg_6, dg_7, dg_8, dg_29, dg_30, put_r9, put_r10, put_r31, put_r32, put_r33, put_r34, put_r35, put_r36, put_r37, put_r38, put_r39, put_r40, put_w9, put_w10, put_w31, put_w32, put_w33, put_w34, put_w35, put_w36, put_w37, put_w38, put_w39, put_w40, nj_n hi, nj_cl hi, nj_l hi, tn_6, tn_7, tn_8, e2, e3, e4, e6, e7, st7 hR gD F hj, stC hR, zb2_s, if_neg one_ne, if_true]
  have hst : MI gM gB mk (stI gI gR gD (g 6)) := MI_I hM (st_SI hR hM.2.2.2.2.2.2 gD (g 6))
  by_cases c1 : gH 1 = gM 6
  · by_cases c2 : gH 3 = gM 7
    · by_cases c3 : gH 4 = gM 8
      · obtain ⟨v, gM', gB', mk', mx', o1, o2, o3, o4⟩ := own_sim hR gD F hj mx hM ha (gH 6)
        rw [o2]
        refine ⟨gM', gB', mk', mx', if v = 0 then gI else stI gI gR gD (g 6), if v = 0 then gD else stD gI gR gD, fun x y => ?_, ?_, ?_, o4⟩
        · rw [if_pos c1, if_pos c2, if_pos c3, own_tn x y o1, zb5_s]
          by_cases v0 : v = 0
          · rw [if_pos v0, if_pos v0, if_pos v0]
          · rw [if_neg v0, if_neg v0, if_neg v0]
        · rw [if_pos c1, if_pos c2, if_pos c3, zb2_s]
        · by_cases v0 : v = 0
          · rw [if_pos v0]; exact o3
          · rw [if_neg v0]; exact MI_I o3 (st_SI hR hM.2.2.2.2.2.2 gD (g 6))
      · exact ⟨gM, gB, mk, mx, _, _, fun x y => by rw [if_pos c1, if_pos c2, if_neg c3], by rw [if_pos c1, if_pos c2, if_neg c3], hst, KP_rf gM⟩
    · exact ⟨gM, gB, mk, mx, _, _, fun x y => by rw [if_pos c1, if_neg c2], by rw [if_pos c1, if_neg c2], hst, KP_rf gM⟩
  · exact ⟨gM, gB, mk, mx, _, _, fun x y => by rw [if_neg c1], by rw [if_neg c1], hst, KP_rf gM⟩
def KM (gH gM gM' : zF) : Prop := (gM' 6 = gM 6 ∨ (gM 6 < gH 1 ∧ gM' 6 = gH 1)) ∧ KQ gM gM'
theorem mix_sim {gR g : zF} (hR : RU gR g) (gD : zF) (F : Nat → zF) {j i : Nat} (hj : j < 12) (hi : i < 12) {gM gB mk gI : zF} (mx gH : zF) (hM : MI gM gB mk gI) (e2 : F 32 i = gH 1) (e3 : F 33 i = gH 3) (e4 : F 34 i = gH 4) (e6 : F 36 i = gH 5) (e7 : F 37 i = gH 6) (ha : Lo12 (gH 5)) (b1 : bd 9999 (gH 1)) (b2 : bd 12 (gH 3)) : ∃ gM' gB' mk' mx' gI' gD', (∀ x y, s_X4_takeMix (tn gM x y) gB mk mx gI gR gD gH (g 6) = some (tn gM' x y, gB', mk', mx', gI', gD')) ∧ s_X7_mix (dg g gD) (put F j gM mk mx gI) (nI j) (nI i) = some (dg g gD', put F j gM' mk' mx' gI') ∧ MI gM' gB' mk' gI' ∧ KM gH gM gM' := by
  unfold s_X4_takeMix s_X7_mix
  simp -implicitDefEqProofs only [nj_n hj, nj_cl hj, nj_l hj, or_self, if_false, zl_e, put_r11, put_r12, put_r13, put_r16, put_r21, put_r27, put_r28, put_r22, put_r23, put_r24, put_r25, put_r26, put_r17, put_r18, put_r19, put_r20, put_w11, put_w12, put_w13, put_w16, put_w21, put_w27, put_w28, put_w22, put_w23, put_w24, put_w25, put_w26, put_w17, put_w18, put_w19, put_w20, dg_0, dg_1, dg_2, dg_3, dg_4, dg_5, dg_6, dg_7, dg_8, dg_29, dg_30, put_r9, put_r10, put_r31, put_r32, put_r33, put_r34, put_r35, put_r36, put_r37, put_r38, put_r39, put_r40, put_w9, put_w10, put_w31, put_w32, put_w33, put_w34, put_w35, put_w36, put_w37, put_w38, put_w39, put_w40, nj_n hi, nj_cl hi, nj_l hi, tn_6, e2, e3, e4]
  by_cases c : gH 1 ≤ gM 6
  · obtain ⟨gM', gB', mk', mx', gI', gD', o1, o2, o3, o4⟩ := mx_27 hR gD F hj hi mx gH hM e2 e3 e4 e6 e7 ha
    exact ⟨gM', gB', mk', mx', gI', gD', fun x y => by rw [if_pos c]; exact o1 x y, by rw [if_pos c]; exact o2, o3, Or.inl o4.1, o4.2⟩
  · obtain ⟨gM', gB', mk', mx', gI', gD', o1, o2, o3, o4⟩ := mx_27 hR gD F hj hi (emp mx) gH (MI_keep hM b1 b2 (gH 4)) e2 e3 e4 e6 e7 ha
    refine ⟨gM', gB', mk', mx', gI', gD', fun x y => ?_, ?_, o3, Or.inr ⟨Int32.not_le.mp c, o4.1⟩, o4.2⟩
    · rw [if_neg c, keepC, zb4_s, tn_w _ _ _ (show 6 ≠ 11 by decide) (show 6 ≠ 12 by decide), tn_w _ _ _ (show 7 ≠ 11 by decide) (show 7 ≠ 12 by decide), tn_w _ _ _ (show 8 ≠ 11 by decide) (show 8 ≠ 12 by decide)]
      exact o1 x y
    · rw [if_neg c, empty7_e _ _ hj, zb1_s, put_z2, put_cg F j _ _ (mk := z0) (mx := z0) (mk' := emp mk) (mx' := emp mx) (fun h hh => by simp [z0, emp, hh]) (fun h hh => by simp [z0, emp, hh])]
      exact o2
/-- a letter as both sides see it -/
def LT (gL : zF) (F : Nat → zF) (i : Nat) : Prop := F 31 i = gL 0 ∧ (gL 0 = 0 ∨ (F 32 i = gL 1 ∧ F 33 i = gL 3 ∧ F 34 i = gL 4 ∧ F 35 i = gL 2 ∧ F 38 i = gL 7 ∧ F 39 i = gL 8 ∧ bd 9999 (gL 1) ∧ bd 12 (gL 3) ∧ bd 9999 (gL 7) ∧ (gL 0 = 1 ∨ (F 36 i = gL 5 ∧ F 37 i = gL 6 ∧ Lo12 (gL 5)))))
theorem MI_tn {gM gB mk gI : zF} (h : MI gM gB mk gI) {x : Int32} (hx : bd 9999 x) (y : Int32) : MI (tn gM x y) gB mk gI := by
  obtain ⟨m1, m2, m3, m4, m5, m6, m7⟩ := h
  exact ⟨m1, m2, m3, m4, hx, m6, m7⟩
def KN (gH gM gM' : zF) : Prop := (gM' 6 = gM 6 ∨ (gM 6 < gH 1 ∧ gM' 6 = gH 1)) ∧ gM' 13 = gM 13 ∧ gM' 14 = gM 14
theorem wk_fin (g gD : zF) (F : Nat → zF) {j i : Nat} (hj : j < 12) (hi : i < 12) (gM gM' gB mk mx gI gH : zF) (e8 : F 38 i = gH 7) (e9 : F 39 i = gH 8) (k1 : gM' 11 = gM 11) (k2 : gM' 12 = gM 12) : s_X7_work_b48 (dg g gD) (put F j gM' mk mx gI) (nI j) (nI i) = some (dg g gD, put F j (if gM 11 < gH 7 then tn gM' (gH 7) (gH 8) else tn gM' (gM 11) (gM 12)) mk mx gI) := by
  unfold s_X7_work_b48
  simp -implicitDefEqProofs only [nj_n hj, nj_cl hj, nj_l hj, or_self, if_false, zl_e, put_r11, put_r12, put_r13, put_r16, put_r21, put_r27, put_r28, put_r22, put_r23, put_r24, put_r25, put_r26, put_r17, put_r18, put_r19, put_r20, put_w11, put_w12, put_w13, put_w16, put_w21, put_w27, put_w28, put_w22, put_w23, put_w24, put_w25, put_w26, put_w17, put_w18, put_w19, put_w20, dg_0, dg_1, dg_2, dg_3, dg_4, dg_5, dg_6, dg_7, dg_8, dg_29, dg_30, put_r9, put_r10, put_r31, put_r32, put_r33, put_r34, put_r35, put_r36, put_r37, put_r38, put_r39, put_r40, put_w9, put_w10, put_w31, put_w32, put_w33, put_w34, put_w35, put_w36, put_w37, put_w38, put_w39, put_w40, nj_n hi, nj_cl hi, nj_l hi, e8, e9, k1]
  by_cases c : gH 7 ≤ gM 11
  · rw [if_pos c, if_neg (Int32.not_lt.mpr c), ← k1, ← k2, tn_self]
  · rw [if_neg c, if_pos (Int32.not_le.mp c)]
    rfl
theorem take_sim {gR g : zF} (hR : RU gR g) (hT : TT g) (gD : zF) (F : Nat → zF) {j i : Nat} (hj : j < 12) (hi : i < 12) {gM gB mk gI : zF} (mx gH : zF) (hM : MI gM gB mk gI) (hL : LT gH F i) (h0 : ¬ gH 0 = 0) (hf : F 40 j = nI i) : ∃ gM' gB' mk' mx' gI' gD', s_X4_take gM gB mk mx gI gR gD gH (g 6) = some (gM', gB', mk', mx', gI', gD') ∧ s_X7_work (dg g gD) (put F j gM mk mx gI) (nI j) = some (dg g gD', put F j gM' mk' mx' gI') ∧ MI gM' gB' mk' gI' ∧ KN gH gM gM' := by
  obtain ⟨l1, l2⟩ := hL
  obtain ⟨e2, e3, e4, e5, e8, e9, b1, b2, b3, l3⟩ := l2.resolve_left h0
  have hx : s_X4_takeTurn gM (gH 7) (gH 8) = some (if gM 11 < gH 7 then 1 else 0, if gM 11 < gH 7 then tn gM (gH 7) (gH 8) else tn gM (gM 11) (gM 12)) := by
    unfold s_X4_takeTurn
    by_cases c : gM 11 < gH 7
    · rw [if_pos c, if_pos c, if_pos c]; rfl
    · rw [if_neg c, if_neg c, if_neg c, tn_self]
  unfold s_X4_take s_X7_work
  rw [hx, zb2_s]
  simp -implicitDefEqProofs only [nj_n hj, nj_cl hj, nj_l hj, or_self, if_false, zl_e, put_r11, put_r12, put_r13, put_r16, put_r21, put_r27, put_r28, put_r22, put_r23, put_r24, put_r25, put_r26, put_r17, put_r18, put_r19, put_r20, put_w11, put_w12, put_w13, put_w16, put_w21, put_w27, put_w28, put_w22, put_w23, put_w24, put_w25, put_w26, put_w17, put_w18, put_w19, put_w20, dg_0, dg_1, dg_2, dg_3, dg_4, dg_5, dg_6, dg_7, dg_8, dg_29, dg_30, put_r9, put_r10, put_r31, put_r32, put_r33, put_r34, put_r35, put_r36, put_r37, put_r38, put_r39, put_r40, put_w9, put_w10, put_w31, put_w32, put_w33, put_w34, put_w35, put_w36, put_w37, put_w38, put_w39, put_w40, nj_n hi, nj_cl hi, nj_l hi, hf, l1, e2, e5, if_pos (nI_pos' (show i < 2 ^ 31 by omega))]
  by_cases c1 : gH 0 = 1
  · obtain ⟨gM', gI', gD', o1, o2, o3, o4⟩ := tell_sim hR hT gD F hj mx gH hM
    refine ⟨if gM 11 < gH 7 then tn gM' (gH 7) (gH 8) else tn gM' (gM 11) (gM 12), gB, mk, mx, gI', gD', ?_, ?_, ?_, ?_⟩
    · rw [if_pos c1]
      by_cases c : gM 11 < gH 7
      · rw [if_pos c, if_pos c, o1, zb3_s]
      · rw [if_neg c, if_neg c, o1, zb3_s]
    · rw [if_pos c1, o2, zb2_s, wk_fin g gD' F hj hi gM gM' gB mk mx gI' gH e8 e9 o4.2.2.2.1 o4.2.2.2.2]
    · by_cases c : gM 11 < gH 7
      · rw [if_pos c]; exact MI_tn o3 b3 _
      · rw [if_neg c]; exact MI_tn o3 hM.2.2.2.2.1 _
    · by_cases c : gM 11 < gH 7
      · rw [if_pos c]; exact ⟨Or.inl o4.1, o4.2.1, o4.2.2.1⟩
      · rw [if_neg c]; exact ⟨Or.inl o4.1, o4.2.1, o4.2.2.1⟩
  · obtain ⟨e6, e7, ha⟩ := l3.resolve_left c1
    obtain ⟨gM', gB', mk', mx', gI', gD', o1, o2, o3, o4⟩ := mix_sim hR gD F hj hi mx gH hM e2 e3 e4 e6 e7 ha b1 b2
    refine ⟨if gM 11 < gH 7 then tn gM' (gH 7) (gH 8) else tn gM' (gM 11) (gM 12), gB', mk', mx', gI', gD', ?_, ?_, ?_, ?_⟩
    · rw [if_neg c1]
      by_cases c : gM 11 < gH 7
      · rw [if_pos c, if_pos c, o1, zb6_s]
      · rw [if_neg c, if_neg c, o1, zb6_s]
    · rw [if_neg c1, o2, zb2_s, wk_fin g gD' F hj hi gM gM' gB' mk' mx' gI' gH e8 e9 o4.2.2.2.1 o4.2.2.2.2]
    · by_cases c : gM 11 < gH 7
      · rw [if_pos c]; exact MI_tn o3 b3 _
      · rw [if_neg c]; exact MI_tn o3 hM.2.2.2.2.1 _
    · by_cases c : gM 11 < gH 7
      · rw [if_pos c]; exact ⟨o4.1, o4.2.1, o4.2.2.1⟩
      · rw [if_neg c]; exact ⟨o4.1, o4.2.1, o4.2.2.1⟩
theorem work_no (g gD : zF) (F : Nat → zF) {j : Nat} (hj : j < 12) (gM mk mx gI : zF) (hf : F 40 j = -1) : s_X7_work (dg g gD) (put F j gM mk mx gI) (nI j) = some (dg g gD, put F j gM mk mx gI) := by
  unfold s_X7_work
  rw [if_neg (by rw [nj_n hj, nj_cl hj, nj_l hj, or_self]; exact id), zl_e, nj_cl hj, put_r40, hf, if_neg (by decide)]
