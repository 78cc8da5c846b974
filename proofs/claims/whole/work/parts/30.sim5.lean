/-! simulation 5: sending -/
theorem up_0 (g : zF) (k : Nat) : va_up g k (g k + 0) = g := by
  funext i
  rw [up_ap, Int32.add_zero]
  by_cases h : i = k
  · rw [if_pos h, h]
  · rw [if_neg h]
def SD (gR g gD : zF) (L : Nat → zF) (j : Nat) (gM gB mk mx gI : zF) (o : Option (zF × zF × zF)) (r : Option (zF × (Nat → zF))) : Prop := ∃ gM' gL' gD' L' c, o = some (gM', gL', gD') ∧ r = some (dg (va_up g 7 (g 7 + c)) gD', put L' j gM' mk mx gI) ∧ LT gL' L' j ∧ (∀ k x, (k < 31 ∨ 39 < k ∨ x ≠ j) → L' k x = L k x) ∧ MI gM' gB mk gI ∧ gM' 6 = gM 6 ∧ gM' 13 + gM' 14 = gM 13 + gM 14 + c ∧ (gL' 0 = 0 ∨ gL' 1 = gM 6)
theorem sd_no {g gD : zF} {L : Nat → zF} {j : Nat} {gM gB mk gI : zF} (gR mx gL : zF) (hM : MI gM gB mk gI) (h31 : L 31 j = 0) : SD gR g gD L j gM gB mk mx gI (s_X4_send_b122 gB mk mx gI gR gM gL gD) (some (dg g gD, put L j gM mk mx gI)) := by
  refine ⟨gM, va_up gL 0 0, gD, L, 0, ?_, ?_, ⟨h31, Or.inl rfl⟩, fun _ _ _ => rfl, hM, rfl, (Int32.add_zero _).symm, Or.inl rfl⟩
  · unfold s_X4_send_b122
    rw [zl_e]
  · rw [up_0]
theorem zu_o (F : Nat → zF) (c j : Nat) (v : Int32) (h1 : 31 ≤ c) (h2 : c ≤ 39) (k x : Nat) (h : k < 31 ∨ 39 < k ∨ x ≠ j) : zu F c j v k x = F k x := by
  rw [zu_ap, if_neg (by omega)]
theorem sd_156 {gR g gD : zF} (hR : RU gR g) {L : Nat → zF} {j : Nat} (hj : j < 12) {gM gB mk gI : zF} (mx gL : zF) (hM : MI gM gB mk gI) (hV : LV gM (gB 2) L j) (h31 : L 31 j = 0) : SD gR g gD L j gM gB mk mx gI (s_X4_send_b76 gB mk mx gI gR gM gL gD (g 6)) (s_X7_send_b156 (dg g gD) (put L j gM mk mx gI) (nI j)) := by
  have hn := sd_no (g := g) (gD := gD) gR mx gL hM h31
  unfold s_X4_send_b76 s_X7_send_b156
  simp -implicitDefEqProofs only [nj_n hj, nj_cl hj, nj_l hj, or_self, if_false, zl_e, put_r11, put_r12, put_r13, put_r16, put_r21, put_r27, put_r28, put_r22, put_r23, put_r24, put_r25, put_r26, put_r17, put_r18, put_r19, put_r20, put_w11, put_w12, put_w13, put_w16, put_w21, put_w27, put_w28, put_w22, put_w23, put_w24, put_w25, put_w26, put_w17, put_w18, put_w19, put_w20, dg_0, dg_1, dg_2, dg_3, dg_4, dg_5, dg_6, dg_7, dg_8, dg_29, dg_30, put_r9, put_r10, put_r31, put_r32, put_r33, put_r34, put_r35, put_r36, put_r37, put_r38, put_r39, put_r40, put_w9, put_w10, put_w31, put_w32, put_w33, put_w34, put_w35, put_w36, put_w37, put_w38, put_w39, put_w40, hR.1, adrC, zb1_s]
  by_cases c1 : gI 2 = g 6
  · by_cases c2 : gR 0 ≤ gI 3
    · rw [if_pos c1, if_pos c1, if_pos c2, if_pos c2]; exact hn
    · rw [if_pos c1, if_pos c1, if_neg c2, if_neg c2]
      refine ⟨va_up gM 13 (gM 13 + 1), adr gM gB gL 1, gD, zu L 31 j 1, 1, rfl, ?_, ?_, zu_o L 31 j 1 (by decide) (by decide), ?_, rfl, ?_, Or.inr rfl⟩
      · rw [dg_w g gD (by decide)]
      · exact adr_LT hM rfl rfl rfl rfl rfl gL (LV_u hV (Or.inl rfl) 1) (by simp [zu_ap]) (Or.inl rfl)
      · obtain ⟨m1, m2, m3, m4, m5, m6, m7⟩ := hM
        exact ⟨m1, m2, m3, m4, m5, m6, m7⟩
      · show gM 13 + 1 + gM 14 = gM 13 + gM 14 + 1
        rw [Int32.add_assoc, Int32.add_comm 1, ← Int32.add_assoc]
  · rw [if_neg c1, if_neg c1]; exact hn
theorem b4096 : (1 : Int32) ≤ 4096 ∧ ¬ (4096 : Int32) = 0 := by decide
theorem sd_108 {gR g gD : zF} (hR : RU gR g) {L : Nat → zF} {j : Nat} (hj : j < 12) {gM gB mk gI : zF} (mx gL : zF) (hM : MI gM gB mk gI) (hV : LV gM (gB 2) L j) (h31 : L 31 j = 0) : SD gR g gD L j gM gB mk mx gI (s_X4_send_b23 gB mk mx gI gR gM gL gD (g 6) 1) (s_X7_send_b108 (dg g gD) (put L j gM mk mx gI) (nI j) 1) := by
  have hn := sd_156 (gD := gD) hR hj mx gL hM hV h31
  unfold s_X4_send_b23 s_X7_send_b108
  simp -implicitDefEqProofs only [nj_n hj, nj_cl hj, nj_l hj, or_self, if_false, zl_e, put_r11, put_r12, put_r13, put_r16, put_r21, put_r27, put_r28, put_r22, put_r23, put_r24, put_r25, put_r26, put_r17, put_r18, put_r19, put_r20, put_w11, put_w12, put_w13, put_w16, put_w21, put_w27, put_w28, put_w22, put_w23, put_w24, put_w25, put_w26, put_w17, put_w18, put_w19, put_w20, dg_0, dg_1, dg_2, dg_3, dg_4, dg_5, dg_6, dg_7, dg_8, dg_29, dg_30, put_r9, put_r10, put_r31, put_r32, put_r33, put_r34, put_r35, put_r36, put_r37, put_r38, put_r39, put_r40, put_w9, put_w10, put_w31, put_w32, put_w33, put_w34, put_w35, put_w36, put_w37, put_w38, put_w39, put_w40, hV.2.2.2.1, if_neg one_ne]
  by_cases c1 : gB 2 ≤ 0
  · rw [if_pos c1, if_pos c1]; exact hn
  · have hp : 0 < ctN mk 12 := by
      rcases Nat.eq_zero_or_pos (ctN mk 12) with e | e
      · exact absurd (by rw [hM.1, e, nI_0]; decide) c1
      · exact e
    have hex := ct_pos 12 hp
    rw [if_neg c1, if_neg c1, below_d gD b4096.1 b4096.2, zb2_s, mix_e, zb1_s, adrC, zb1_s, dg_w g gD (by decide), mk7_p _ gD _ hj _ mk mx gI hex, zb2_s]
    refine ⟨va_up gM 14 (gM 14 + 1), adr gM gB (hmx gL (mxP mk mx gD)) 2, drD gD, hF (zu L 31 j 2) j (mxP mk mx gD), 1, rfl, rfl, ?_, ?_, ?_, rfl, ?_, Or.inr rfl⟩
    · refine adr_LT hM rfl rfl rfl rfl rfl (hmx gL (mxP mk mx gD)) ?_ ?_ (Or.inr ⟨hF_36 _ _ _, hF_37 _ _ _, ?_⟩)
      · unfold hF
        exact LV_u (LV_u (LV_u hV (Or.inl rfl) 2) (Or.inr (Or.inl rfl)) _) (Or.inr (Or.inr rfl)) _
      · rw [hF_o _ _ _ (by decide) (by decide)]; simp [zu_ap]
      · exact mixE_lo hM.2.1 (mixN_lo hM.2.1 _ 12 0 (0, 0) (by omega) Lo_0) hex
    · intro k x h
      unfold hF
      rw [zu_o _ 37 j _ (by decide) (by decide) k x h, zu_o _ 36 j _ (by decide) (by decide) k x h, zu_o _ 31 j _ (by decide) (by decide) k x h]
    · obtain ⟨m1, m2, m3, m4, m5, m6, m7⟩ := hM
      exact ⟨m1, m2, m3, m4, m5, m6, m7⟩
    · show gM 13 + (gM 14 + 1) = gM 13 + gM 14 + 1
      rw [Int32.add_assoc]
theorem send_sim {gR g gD : zF} (hR : RU gR g) {F : Nat → zF} {j : Nat} (hj : j < 12) {gM gB mk gI : zF} (mx gL : zF) (hM : MI gM gB mk gI) : SD gR g gD F j gM gB mk mx gI (s_X4_send gM gB mk mx gI gL gR gD (g 6)) (s_X7_send (dg g gD) (put F j gM mk mx gI) (nI j)) := by
  obtain ⟨hV, h31⟩ := lF_v F j gM (gB 2)
  have ho := lF_o F j gM (gB 2)
  have key : SD gR g gD (lF F j gM (gB 2)) j gM gB mk mx gI (s_X4_send gM gB mk mx gI gL gR gD (g 6)) (s_X7_send (dg g gD) (put F j gM mk mx gI) (nI j)) := by
    unfold s_X4_send s_X7_send s_X4_send_b13 s_X7_send_b96
    simp -implicitDefEqProofs only [nj_n hj, nj_cl hj, nj_l hj, or_self, if_false, zl_e, put_r11, put_r12, put_r13, put_r16, put_r21, put_r27, put_r28, put_r22, put_r23, put_r24, put_r25, put_r26, put_r17, put_r18, put_r19, put_r20, put_w11, put_w12, put_w13, put_w16, put_w21, put_w27, put_w28, put_w22, put_w23, put_w24, put_w25, put_w26, put_w17, put_w18, put_w19, put_w20, dg_0, dg_1, dg_2, dg_3, dg_4, dg_5, dg_6, dg_7, dg_8, dg_29, dg_30, put_r9, put_r10, put_r31, put_r32, put_r33, put_r34, put_r35, put_r36, put_r37, put_r38, put_r39, put_r40, put_w9, put_w10, put_w31, put_w32, put_w33, put_w34, put_w35, put_w36, put_w37, put_w38, put_w39, put_w40, rank_p _ _ hj, zb1_s, ← hM.1, if_neg one_ne, if_true]
    have e : ∀ a b c d, put (zu (zu (zu (zu (zu (zu (zu F 31 j 0) 32 j (gM 6)) 33 j (gM 7)) 34 j (gM 8)) 35 j (gB 2)) 38 j (gM 11)) 39 j (gM 12)) j a b c d = put (lF F j gM (gB 2)) j a b c d := fun _ _ _ _ => rfl
    rw [e, e]
    by_cases c1 : gM 10 = g 6
    · rw [if_pos c1, if_pos c1]
      have hM2 : MI (va_up gM 10 (-1)) gB mk gI := MI_10 hM (Or.inl rfl)
      exact sd_108 hR hj mx gL hM2 hV h31
    · rw [if_neg c1, if_neg c1]
      unfold s_X4_send_b23 s_X7_send_b108
      rw [if_pos rfl, if_pos rfl]
      exact sd_156 hR hj mx gL hM hV h31
  obtain ⟨gM', gL', gD', L', c, o1, o2, o3, o4, o5, o6, o7, o8⟩ := key
  exact ⟨gM', gL', gD', L', c, o1, o2, o3, fun k x h => (o4 k x h).trans (ho k x h), o5, o6, o7, o8⟩
