/-! the calls, one by one, 3 -/
theorem nI_lo {m : Nat} (hm : m < 4096) : Lo12 (nI m) := by
  intro i hi
  unfold bt
  have h : (nI m).toBitVec.toNat = m := pk_tn (by omega)
  rw [BitVec.getLsbD, h]
  exact Nat.testBit_lt_two_pow (Nat.lt_of_lt_of_le hm (Nat.pow_le_pow_right (n := 2) (by decide) hi))
theorem shl_k : ∀ k, k ≤ 12 → zShl 1 (nI k) - 1 = nI (2 ^ k - 1) ∧ 2 ^ k - 1 < 4096 := by decide +kernel
theorem lie_op {n : Nat} {g fO to gR gD : zF} {S : Nat → Nat → zF} {C : Nat → Option Nat} {g2 : zF} {F : Nat → zF} (h : ZR n g fO to gR gD S C g2 F) (p1 p2 p3 : Int32) : ∃ r gD' S' g2' F', s_X6_lie g fO to gR gD S C n p1 p2 p3 = some (r, gD', S') ∧ s_X7_lie g2 F p1 p2 p3 = some (r, g2', F') ∧ (r = 0 ∨ r = 1) ∧ ZR n g fO to gR gD' S' C g2' F' := by
  have hz := h
  obtain ⟨t, k, v, ht, ⟨hn, hR, ⟨h5, h25⟩, ⟨h7, h26⟩, ⟨hk, hk1, hk2⟩, hB, hK, hO, hC⟩, h0⟩ := h
  unfold s_X6_lie s_X7_lie
  rcases mach_c hn h5 h25 F p1 with ⟨c1, c2⟩ | ⟨j, hj, rfl, c1⟩
  · exact ⟨0, gD, S, g2, F, by rw [at_n h5 c2], by rw [c1, zb1_s, if_pos rfl], Or.inl rfl, hz⟩
  · have hj12 : j < 12 := by omega
    have hF := (hB.1 j hj).1
    have hM := (hB.1 j hj).2
    have f12 : F 12 j = S j 0 7 := by
      have h := congrFun (congrFun hF 12) j
      rw [put_r12] at h
      exact h.symm
    rw [at_s hn h5 hj, c1, zb1_s, if_neg one_ne]
    simp -implicitDefEqProofs only [nj_n hj12, nj_cl hj12, nj_l hj12, or_self, if_false, fld11 hB hj, f12, wi6, wi7, zb1_s]
    by_cases q : S j 0 6 = 0
    · exact ⟨0, gD, S, g2, F, by rw [if_pos q], by rw [if_pos q], Or.inl rfl, hz⟩
    · rw [if_neg q, if_neg q]
      by_cases q2 : wi p2 1 (zShl 1 (S j 0 7) - 1) = 0
      · exact ⟨0, gD, S, g2, F, by rw [if_pos q2], by rw [if_pos q2], Or.inl rfl, hz⟩
      · rw [if_neg q2, if_neg q2]
        have ha : Lo12 p2 := by
          obtain ⟨a, a1, a2⟩ := hM.2.2.2.1
          obtain ⟨s1, s2⟩ := shl_k a a1
          rw [a2, s1] at q2
          rcases Nat.lt_or_ge (2 ^ a - 1) 1 with l | l
          · exfalso
            obtain ⟨w1, w2⟩ := wi_n0 q2
            have e : 2 ^ a - 1 = 0 := by omega
            rw [e] at w2
            exact w2 (Int32.lt_of_lt_of_le (by decide : nI 0 < 1) (Int32.not_lt.mp w1))
          · obtain ⟨m, m1, m2, rfl⟩ := wi_bd (x := p2) (a := 1) (b := 2 ^ a - 1) (by omega) l q2
            exact nI_lo (by omega)
        obtain ⟨w, gM', gB', mk', mx', o1, o2, o3, o4⟩ := own_sim hR gD F hj12 (S j 3) hM ha p3
        rw [hF, dg_self h0] at o2
        rw [o1, zb5_s, o2, zb2_s, stC hR, zb2_s, h7, ← h26]
        have hgen : ∀ gI gD1, SpI gI → ZR n g fO to gR gD1 (va_up S j (zs6 gM' gB' mk' mx' gI (S j 5))) C (dg g2 gD1) (put F j gM' mk' mx' gI) := by
          intro gI gD1 hI
          refine ZR_dg (t := t) (k := k) (v := v) ht ⟨hn, hR, ⟨h5, h25⟩, ⟨h7, h26⟩, ⟨hk, hk1, hk2⟩, ?_, hK, hO, hC⟩
          exact BR_g hB hj (MI_I o3 hI) (by rw [o4.2.1, o4.2.2.1]) (GV_j hB.2.2.2.2.2 hj (Or.inl o4.1))
        by_cases w0 : w = 0
        · rw [if_pos w0, if_pos w0, if_pos w0, zl_e]
          exact ⟨1, _, _, _, _, rfl, rfl, Or.inr rfl, hgen _ _ hM.2.2.2.2.2.2⟩
        · rw [if_neg w0, if_neg w0, if_neg w0, zl_e]
          exact ⟨1, _, _, _, _, rfl, rfl, Or.inr rfl, hgen _ _ (st_SI hR hM.2.2.2.2.2.2 gD (g2 6))⟩
theorem cut_op {n : Nat} {g fO to gR gD : zF} {S : Nat → Nat → zF} {C : Nat → Option Nat} {g2 : zF} {F : Nat → zF} (h : ZR n g fO to gR gD S C g2 F) (p1 p2 : Int32) : ∃ r gD' S' g2' F', s_X6_cut g fO to gR gD S C n p1 p2 = some (r, gD', S') ∧ s_X7_cut g2 F p1 p2 = some (r, g2', F') ∧ (r = 0 ∨ r = 1) ∧ ZR n g fO to gR gD' S' C g2' F' := by
  have hz := h
  obtain ⟨t, k, v, ht, ⟨hn, hR, ⟨h5, h25⟩, ⟨h7, h26⟩, ⟨hk, hk1, hk2⟩, hB, hK, hO, hC⟩, h0⟩ := h
  unfold s_X6_cut s_X7_cut
  rcases mach_c hn h5 h25 F p1 with ⟨c1, c2⟩ | ⟨j, hj, rfl, c1⟩
  · exact ⟨0, gD, S, g2, F, by rw [at_n h5 c2], by rw [c1, zb1_s, if_pos rfl], Or.inl rfl, hz⟩
  · have hj12 : j < 12 := by omega
    have hF := (hB.1 j hj).1
    have hM := (hB.1 j hj).2
    rw [at_s hn h5 hj, c1, zb1_s, if_neg one_ne]
    obtain ⟨gM', gB', mk', mx', gI', gD', o1, o2, o3, o4⟩ := cut_sim hR gD F hj12 (S j 3) hM p2
    rw [hF, dg_self h0] at o2
    rw [h7, ← h26, o1, zb6_s, zl_e, o2]
    refine ⟨1, _, _, _, _, rfl, rfl, Or.inr rfl, ZR_dg (t := t) (k := k) (v := v) ht ⟨hn, hR, ⟨h5, h25⟩, ⟨h7, h26⟩, ⟨hk, hk1, hk2⟩, ?_, hK, hO, hC⟩⟩
    exact BR_g hB hj o3 (by rw [o4.2.1, o4.2.2]) (GV_j hB.2.2.2.2.2 hj (Or.inl o4.1))
theorem ticks_op {n : Nat} {g fO to gR gD : zF} {S : Nat → Nat → zF} {C : Nat → Option Nat} {g2 : zF} {F : Nat → zF} (h : ZR n g fO to gR gD S C g2 F) (p1 : Int32) : ∃ r g' gD' S' C' g2' F', s_X6_ticks g fO to gR gD S C n p1 = some (r, g', gD', S', C') ∧ s_X7_ticks g2 F p1 = some (r, g2', F') ∧ ZR n g' fO to gR gD' S' C' g2' F' := by
  have hz := h
  obtain ⟨t, k, v, ht, hZ, h0⟩ := h
  have h7 := hZ.2.2.2.1.1
  have h26 := hZ.2.2.2.1.2
  unfold s_X6_ticks s_X7_ticks
  rw [wi6, wi7, zb1_s, zb1_s]
  by_cases c : wi p1 1 200 = 0
  · exact ⟨-1, g, gD, S, C, g2, F, by rw [if_pos c], by rw [if_pos c], hz⟩
  · rw [if_neg c, if_neg c]
    obtain ⟨m, m1, m2, rfl⟩ := wi_bd (x := p1) (a := 1) (b := 200) (by decide) (by decide) c
    have e1 : (100000 : Int32) = nI 100000 := rfl
    rw [h7, h26, e1, pk_sub ht, nI_add]
    by_cases l : t + m ≤ 100000
    · obtain ⟨g', gD', S', C', g2', F', q1, q2, q3⟩ := tk_e l m2 hZ
      rw [dg_self h0] at q2
      refine ⟨nI (t + m), g', gD', S', C', dg g2' gD', F', ?_, ?_, ZR_dg l q3⟩
      · rw [if_pos (nI_le (by omega) (by omega))]; exact q1
      · rw [if_pos (nI_le l (by omega))]; exact q2
    · refine ⟨-1, g, gD, S, C, g2, F, ?_, ?_, hz⟩
      · rw [if_neg (nI_ge (by omega) (by omega))]
      · rw [if_neg (nI_ge (by omega) (by omega))]
theorem hdI_le {o : Option Nat} (ho : ∀ h, o = some h → h < 12) : (0 ≤ hdI o) ↔ ∃ h, o = some h := hdI_sg ho
theorem head_p (g : zF) (F : Nat → zF) {j : Nat} (hj : j < 12) (gM mk mx gI : zF) (nth : Int32) : s_X7_headOf g (put F j gM mk mx gI) (nI j) nth = some (hdI (hN mk nth 12)) := by
  rw [head7_e g _ nth hj, hN_cg 12 (colp_14 F j gM mk mx gI)]
  by_cases c : nth < 0
  · rw [if_pos c, hN_none c, hdI_n]
  · rw [if_neg c]
theorem ite_ex {c : Prop} {d : Decidable c} {a b : Option Int32} (h1 : ∃ r, a = some r) (h2 : ∃ r, b = some r) : ∃ r, (@ite (Option Int32) c d a b) = some r := by
  by_cases h : c
  · rw [if_pos h]; exact h1
  · rw [if_neg h]; exact h2
theorem zb_id {X : Option Int32} (h : ∃ r, X = some r) : ∃ r, (zb1 X fun (v4 : Int32) => some v4) = some r ∧ X = some r := by
  obtain ⟨r, rfl⟩ := h
  exact ⟨r, by rw [zb1_s], rfl⟩
theorem mof_op {n : Nat} {g fO to gR gD : zF} {S : Nat → Nat → zF} {C : Nat → Option Nat} {g2 : zF} {F : Nat → zF} (h : ZR n g fO to gR gD S C g2 F) (p1 p2 : Int32) : ∃ r, s_X6_machineOf g fO to gR gD S C n p1 p2 = some r ∧ s_X7_machineOf g2 F p1 p2 = some r := by
  obtain ⟨t, k, v, ht, ⟨hn, hR, ⟨h5, h25⟩, ⟨h7, h26⟩, ⟨hk, hk1, hk2⟩, hB, hK, hO, hC⟩, h0⟩ := h
  unfold s_X6_machineOf s_X7_machineOf
  rcases mach_c hn h5 h25 F p1 with ⟨c1, c2⟩ | ⟨j, hj, rfl, c1⟩
  · exact ⟨-1, by rw [at_n h5 c2], by rw [c1, zb1_s, if_pos rfl]⟩
  · have hj12 : j < 12 := by omega
    have hF := (hB.1 j hj).1
    have hM := (hB.1 j hj).2
    rw [at_s hn h5 hj, c1, zb1_s, if_neg one_ne]
    by_cases c : p2 < 100
    · rw [if_pos c, if_pos c]
      have ha := ans_sim g2 F hj12 (S j 3) hM p2
      rw [hF] at ha
      have hw := isW_sim g2 F hj12 (S j 3) hM
      have hr := rank_p g2 F hj12 (S j 0) (S j 2) (S j 3) (S j 4)
      rw [hF] at hw hr
      rw [isW_v] at hw
      simp -implicitDefEqProofs only [nj_n hj12, nj_cl hj12, nj_l hj12, or_self, if_false, hw, hr, zb1_s] at ha ⊢
      rw [ha]
      refine zb_id ?_
      repeat' (first | refine ite_ex ?_ ?_ | exact ⟨_, rfl⟩)
    · rw [if_neg c, if_neg c, maskN_e, zb1_s]
      have hh := head_p g2 F hj12 (S j 0) (S j 2) (S j 3) (S j 4) (p2 - 100)
      rw [hF] at hh
      rw [hh, zb1_s]
      cases e : hN (S j 2) (p2 - 100) 12 with
      | none => exact ⟨-1, rfl, by rw [hdI_n, if_neg (by decide)]⟩
      | some x =>
        have hx := (hN_lt _ _ _ _ e).1
        have f14 : F 14 (12 * j + x) = S j 2 x := by
          have h := congrFun (congrFun hF 14) (12 * j + x)
          rw [put_14 _ _ _ _ _ _ hx] at h
          exact h.symm
        refine ⟨S j 2 x, rfl, ?_⟩
        rw [hdI_s, if_pos (nI_pos' (by omega))]
        simp -implicitDefEqProofs only [ix_cl hj12 hx, ix_n hj12 hx, ix_l hj12 hx, or_self, if_false, f14]
theorem data_op {n : Nat} {g fO to gR gD : zF} {S : Nat → Nat → zF} {C : Nat → Option Nat} {g2 : zF} {F : Nat → zF} (h : ZR n g fO to gR gD S C g2 F) (p1 p2 : Int32) : ∃ r, s_X6_data g fO to gR gD S C n p1 p2 = some r ∧ s_X7_data g2 F p1 p2 = some r := by
  obtain ⟨t, k, v, ht, ⟨hn, hR, ⟨h5, h25⟩, ⟨h7, h26⟩, ⟨hk, hk1, hk2⟩, hB, hK, hO, hC⟩, h0⟩ := h
  unfold s_X6_data s_X7_data s_X7_data_b18
  rcases mach_c hn h5 h25 F p1 with ⟨c1, c2⟩ | ⟨j, hj, rfl, c1⟩
  · exact ⟨0, by rw [at_n h5 c2], by rw [c1, zb1_s, if_pos rfl, if_neg (by decide)]⟩
  · have hj12 : j < 12 := by omega
    have hF := (hB.1 j hj).1
    rw [at_s hn h5 hj, c1, zb1_s, if_neg one_ne, dataN_e, zb1_s]
    have hh := head_p g2 F hj12 (S j 0) (S j 2) (S j 3) (S j 4) p2
    rw [hF] at hh
    rw [hh, zb1_s]
    cases e : hN (S j 2) p2 12 with
    | none => exact ⟨0, rfl, by rw [hdI_n, if_neg (by decide)]⟩
    | some x =>
      have hx := (hN_lt _ _ _ _ e).1
      have f15 : F 15 (12 * j + x) = S j 3 x := by
        have h := congrFun (congrFun hF 15) (12 * j + x)
        rw [put_15 _ _ _ _ _ _ hx] at h
        exact h.symm
      refine ⟨S j 3 x, rfl, ?_⟩
      rw [hdI_s, if_pos (nI_pos' (by omega))]
      simp -implicitDefEqProofs only [ix_cl hj12 hx, ix_n hj12 hx, ix_l hj12 hx, or_self, if_false, f15]
theorem sum_op {n : Nat} {g fO to gR gD : zF} {S : Nat → Nat → zF} {C : Nat → Option Nat} {g2 : zF} {F : Nat → zF} (h : ZR n g fO to gR gD S C g2 F) (p1 : Int32) : ∃ r, s_X6_sum g fO to gR gD S C n p1 = some r ∧ s_X7_sum g2 F p1 = some r := by
  obtain ⟨t, k, v, ht, ⟨hn, hR, ⟨h5, h25⟩, ⟨h7, h26⟩, ⟨hk, hk1, hk2⟩, hB, hK, hO, hC⟩, h0⟩ := h
  unfold s_X6_sum s_X7_sum
  rcases mach_c hn h5 h25 F p1 with ⟨c1, c2⟩ | ⟨j, hj, rfl, c1⟩
  · exact ⟨0, by rw [at_n h5 c2], by rw [c1, zb1_s, if_pos rfl]⟩
  · have hj12 : j < 12 := by omega
    have hF := (hB.1 j hj).1
    have f13 : F 13 j = S j 0 8 := by
      have h := congrFun (congrFun hF 13) j
      rw [put_r13] at h
      exact h.symm
    rw [at_s hn h5 hj, c1, zb1_s, if_neg one_ne]
    simp -implicitDefEqProofs only [nj_n hj12, nj_cl hj12, nj_l hj12, or_self, if_false, f13]
    exact ⟨_, rfl, rfl⟩
