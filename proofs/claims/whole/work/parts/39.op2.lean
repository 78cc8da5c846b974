/-! the calls, one by one, 2 -/
theorem piece_op {n : Nat} {g fO to gR gD : zF} {S : Nat → Nat → zF} {C : Nat → Option Nat} {g2 : zF} {F : Nat → zF} (h : ZR n g fO to gR gD S C g2 F) (p1 : Int32) : ∃ r g' to' g2' F', s_X6_piece g to p1 = some (r, g', to') ∧ s_X7_piece g2 F p1 = some (r, g2', F') ∧ ZR n g' fO to' gR gD S C g2' F' := by
  have hz := h
  obtain ⟨t, k, v, ht, ⟨hn, hR, ⟨h5, h25⟩, ⟨h7, h26⟩, ⟨hk, hk1, hk2⟩, hB, hK, hO, hC⟩, h0⟩ := h
  unfold s_X6_piece s_X7_piece
  rw [hk1, hk2, if_neg (nI_pos (by omega))]
  rcases Nat.lt_or_ge k 12 with l | l
  · have c1 : nI k < 12 := nI_lt (b := 12) l (by omega)
    have c2 : ¬ nI k = 12 := fun e => by
      have e2 : nI k = nI 12 := e
      rw [nI_eq (by omega) (by omega)] at e2
      omega
    rw [if_pos c1, if_neg c2, if_neg (nI_in l (by omega)), if_neg (nI_in l (by omega)), nI_clamp (by omega), zl_e, zl_e, zl_e, zl_e]
    refine ⟨nI k + 1, _, _, _, _, rfl, rfl, t, k + 1, v, ht, ⟨hn, hR, ⟨h5, h25⟩, ⟨h7, h26⟩, ⟨by omega, ?_, ?_⟩, ?_, hK, hO, hC⟩, h0⟩
    · exact nI_s k
    · exact nI_s k
    · refine BR_F hB (fun k' i' h _ => by rw [zu_ap, if_neg (by omega)]) (fun i' hi' => ?_) (fun i' hi' => by rw [zu_ap, if_neg (by omega)]; exact hB.2.2.2.1 i' hi')
      rw [zu_ap, upd_ap]
      by_cases e : i' = k
      · rw [if_pos ⟨rfl, e⟩, if_pos e]
      · rw [if_neg (fun q => e q.2), if_neg e]; exact hB.2.2.1 i' hi'
  · have e : k = 12 := by omega
    subst e
    exact ⟨-1, g, to, g2, F, by rw [if_neg (by decide)], by rw [if_pos (by decide)], hz⟩
theorem BR_g {n : Nat} {to fO : zF} {v v' : Int32} {S : Nat → Nat → zF} {x : Int32} {F : Nat → zF} (h : BR n to fO v S x F) {j : Nat} (hj : j < n) {gM gB mk mx gI gL : zF} (hM : MI gM gB mk gI) (hc : gM 13 + gM 14 = S j 0 13 + S j 0 14) (hg : GV n (va_up S j (zs6 gM gB mk mx gI gL)) v') : BR n to fO v' (va_up S j (zs6 gM gB mk mx gI gL)) x (put F j gM mk mx gI) := by
  obtain ⟨a1, a2, a3, a4, a5, a6⟩ := h
  have ho : ∀ i, i ≠ j → va_up S j (zs6 gM gB mk mx gI gL) i = S i := fun i hi => by rw [up_ap, if_neg hi]
  have hjj : va_up S j (zs6 gM gB mk mx gI gL) j = zs6 gM gB mk mx gI gL := by rw [up_ap, if_pos rfl]
  refine ⟨fun i hi => ?_, fun i hi => ?_, fun i hi => ?_, fun i hi => ?_, ?_, hg⟩
  · by_cases e : i = j
    · subst e
      rw [hjj]
      exact ⟨put_put _ _ _ _ _ _ _ _ _ _, hM⟩
    · rw [ho i e, put_cm F e, (a1 i hi).1]
      exact ⟨rfl, (a1 i hi).2⟩
  · have e : i ≠ j := by omega
    rw [put_cm F e, a2 i hi]
  · rw [put_r9]; exact a3 i hi
  · rw [put_r10]; exact a4 i hi
  · have ht := tot_cg (S := S) (S' := va_up S j (zs6 gM gB mk mx gI gL)) n (fun i hi => by
      by_cases e : i = j
      · subst e; rw [hjj]; exact hc
      · rw [ho i e])
    rw [a5, ht]
theorem GV_j {n : Nat} {S : Nat → Nat → zF} {v : Int32} (h : GV n S v) {j : Nat} (hj : j < n) {s : Nat → zF} (hs : s 0 6 = S j 0 6 ∨ (S j 0 6 < s 0 6 ∧ s 0 6 ≤ v)) : GV n (va_up S j s) v := by
  refine GV_up h (j := j) ?_ (fun i hi => by rw [up_ap, if_neg hi])
  have e : va_up S j s j = s := by rw [up_ap, if_pos rfl]
  rw [e]; exact hs
theorem GV_new {n : Nat} {S : Nat → Nat → zF} {v : Int32} (h : GV n S v) {j : Nat} (hj : j < n) {s : Nat → zF} (hb : bd 9999 (s 0 6)) (hl : v < s 0 6) : GV n (va_up S j s) (s 0 6) := by
  have e : va_up S j s j = s := by rw [up_ap, if_pos rfl]
  refine ⟨fun i hi => ?_, Or.inr ⟨j, hj, by rw [e]⟩, hb⟩
  by_cases e2 : i = j
  · rw [e2, e]; exact Int32.le_refl _
  · rw [up_ap, if_neg e2]
    exact Int32.le_trans (h.1 i hi) (Int32.le_of_lt hl)
/-- a number asked for: greater than the one kept -/
theorem num_c {x p : Int32} (hx : bd 9999 x) : (wi p (x + 1) 9999 = 0 ∧ (wi p 1 9999 = 0 ∨ ¬ x < p)) ∨ (¬ wi p (x + 1) 9999 = 0 ∧ ¬ wi p 1 9999 = 0 ∧ x < p ∧ bd 9999 p) := by
  obtain ⟨a, a1, rfl⟩ := hx
  rw [nI_s]
  by_cases h : wi p 1 9999 = 0
  · left
    refine ⟨?_, Or.inl h⟩
    by_cases h2 : wi p (nI (a + 1)) 9999 = 0
    · exact h2
    · obtain ⟨q1, q2⟩ := wi_n0 h2
      have hw := wi_in (x := p) (a := 1) (b := 9999) (fun q => q1 (Int32.lt_of_lt_of_le q (n1_le (by omega) (by omega)))) q2
      rw [hw] at h
      exact absurd h one_ne
  · obtain ⟨m, m1, m2, rfl⟩ := wi_bd (x := p) (a := 1) (b := 9999) (by decide) (by decide) h
    rcases Nat.lt_or_ge a m with l | l
    · right
      refine ⟨?_, h, nI_lt l (by omega), m, m2, rfl⟩
      have hw := wi_in (x := nI m) (a := nI (a + 1)) (b := 9999) (nI_nlt (by omega) (by omega)) (nI_nlt (a := 9999) (b := m) (by omega) (by omega))
      rw [hw]
      exact one_ne
    · left
      refine ⟨?_, Or.inr (nI_nlt l (by omega))⟩
      unfold wi
      rw [if_pos (nI_lt (by omega) (by omega))]
theorem load_op {n : Nat} {g fO to gR gD : zF} {S : Nat → Nat → zF} {C : Nat → Option Nat} {g2 : zF} {F : Nat → zF} (h : ZR n g fO to gR gD S C g2 F) (p1 p2 : Int32) : ∃ r g' gD' S' g2' F', s_X6_load g fO to gR gD S C n p1 p2 = some (r, g', gD', S') ∧ s_X7_load g2 F p1 p2 = some (r, g2', F') ∧ ZR n g' fO to gR gD' S' C g2' F' := by
  have hz := h
  obtain ⟨t, k, v, ht, ⟨hn, hR, ⟨h5, h25⟩, ⟨h7, h26⟩, ⟨hk, hk1, hk2⟩, hB, hK, hO, hC⟩, h0⟩ := h
  unfold s_X6_load s_X7_load
  rcases mach_c hn h5 h25 F p1 with ⟨c1, c2⟩ | ⟨j, hj, rfl, c1⟩
  · exact ⟨-1, g, gD, S, g2, F, by rw [at_n h5 c2], by rw [c1, zb1_s, if_pos rfl], hz⟩
  · have hj12 : j < 12 := by omega
    have hF := (hB.1 j hj).1
    have hM := (hB.1 j hj).2
    rw [at_s hn h5 hj, c1, zb1_s, if_neg one_ne, hk1, hk2]
    by_cases k0 : nI k = 0
    · exact ⟨-1, g, gD, S, g2, F, by rw [if_pos k0], by rw [if_pos k0], hz⟩
    · rw [if_neg k0, if_neg k0]
      simp -implicitDefEqProofs only [nj_n hj12, nj_cl hj12, nj_l hj12, or_self, if_false, fld11 hB hj, wi6, wi7, zb1_s, zl_e]
      rcases num_c (p := p2) hM.2.2.1 with ⟨n1, n2⟩ | ⟨n1, n2, n3, n4⟩
      · refine ⟨-1, g, gD, S, g2, F, ?_, by rw [if_pos n1], hz⟩
        rcases n2 with n2 | n2
        · rw [if_pos n2]
        · by_cases n4 : wi p2 1 9999 = 0
          · rw [if_pos n4]
          · rw [if_neg n4, if_neg n2]
      · rw [if_neg n1, if_neg n2, if_pos n3]
        obtain ⟨gM', gB', mk', mx', o1, o2, o3, o4, o5, o6, o7⟩ := load_sim hR gD F to hj12 hk hk2 hB.2.2.1 (S j 3) hM n4
        rw [o1, zb4_s, stC hR, zb2_s, h7, ← h26, o4]
        have hd : g2 = dg g2 gD := (dg_self h0).symm
        have hP : zu (zu F 11 j p2) 12 j (nI k) = put F j (va_up (va_up (S j 0) 6 p2) 7 (nI k)) (S j 2) (S j 3) (S j 4) := by
          conv => lhs; rw [← hF]
          rw [put_w11, put_w12]
        rw [hP, empty7_e _ _ hj12, zb1_s, put_z2]
        conv =>
          enter [1, r, 1, g', 1, gD', 1, S', 1, g2', 1, F', 2, 1, 1]
          rw [hd, o2]
        have hM2 := MI_I o3 (st_SI hR hM.2.2.2.2.2.2 gD (g2 6))
        by_cases c : p2 ≤ va_up g 6 0 8
        · rw [if_pos c]
          refine ⟨nI k, _, _, _, _, _, rfl, rfl, ZR_dg (t := t) (k := 0) (v := v) ht ⟨hn, hR, ⟨h5, h25⟩, ⟨h7, h26⟩, ⟨by omega, nI_0.symm, nI_0.symm⟩, ?_, hK, hO, hC⟩⟩
          refine BR_g hB hj hM2 (by rw [o6, o7]) (GV_j hB.2.2.2.2.2 hj (Or.inr ⟨?_, ?_⟩))
          · rw [zs_0, o5]; exact n3
          · rw [zs_0, o5]
            have c' : p2 ≤ g 8 := c
            rw [hK.1] at c'
            exact c'
        · rw [if_neg c]
          have c' : ¬ p2 ≤ g 8 := c
          rw [hK.1] at c'
          have cl := Int32.not_le.mp c'
          refine ⟨nI k, _, _, _, _, _, rfl, rfl, ZR_dg (t := t) (k := 0) (v := p2) ht ⟨hn, hR, ⟨h5, h25⟩, ⟨h7, h26⟩, ⟨by omega, nI_0.symm, nI_0.symm⟩, ?_, ⟨rfl, ?_, ?_, hK.2.2.2⟩, hO, hC⟩⟩
          · have hg := GV_new hB.2.2.2.2.2 hj (s := zs6 gM' gB' mk' mx' (stI (S j 4) gR gD (g2 6)) (S j 5)) (by rw [zs_0, o5]; exact n4) (by rw [zs_0, o5]; exact cl)
            rw [zs_0, o5] at hg
            exact BR_g hB hj hM2 (by rw [o6, o7]) hg
          · show g2 29 ≤ p2
            exact Int32.le_trans hK.2.1 (Int32.le_of_lt cl)
          · show (-1 : Int32) = if g2 29 = p2 then g2 30 else -1
            rw [if_neg (fun e => by
              have h2 := hK.2.1
              rw [e] at h2
              exact c' h2)]
theorem turn_op {n : Nat} {g fO to gR gD : zF} {S : Nat → Nat → zF} {C : Nat → Option Nat} {g2 : zF} {F : Nat → zF} (h : ZR n g fO to gR gD S C g2 F) (p1 p2 p3 : Int32) : ∃ r S' F', s_X6_turn g fO to gR gD S C n p1 p2 p3 = some (r, S') ∧ s_X7_turn g2 F p1 p2 p3 = some (r, F') ∧ (r = 0 ∨ r = 1) ∧ ZR n g fO to gR gD S' C g2 F' := by
  have hz := h
  obtain ⟨t, k, v, ht, ⟨hn, hR, ⟨h5, h25⟩, ⟨h7, h26⟩, ⟨hk, hk1, hk2⟩, hB, hK, hO, hC⟩, h0⟩ := h
  unfold s_X6_turn s_X7_turn
  rcases mach_c hn h5 h25 F p1 with ⟨c1, c2⟩ | ⟨j, hj, rfl, c1⟩
  · exact ⟨0, S, F, by rw [at_n h5 c2], by rw [c1, zb1_s, if_pos rfl], Or.inl rfl, hz⟩
  · have hj12 : j < 12 := by omega
    have hF := (hB.1 j hj).1
    have hM := (hB.1 j hj).2
    have f27 : F 27 j = S j 0 11 := by
      have h := congrFun (congrFun hF 27) j
      rw [put_r27] at h
      exact h.symm
    rw [at_s hn h5 hj, c1, zb1_s, if_neg one_ne]
    simp -implicitDefEqProofs only [nj_n hj12, nj_cl hj12, nj_l hj12, or_self, if_false, f27, wi6, wi7, zb1_s, zl_e]
    unfold s_X4_takeTurn
    have hN : ZR n g fO to gR gD (nrm S j) C g2 F := ⟨t, k, v, ht, ⟨hn, hR, ⟨h5, h25⟩, ⟨h7, h26⟩, ⟨hk, hk1, hk2⟩, BR_nrm hB hj, hK, hO, hC⟩, h0⟩
    rcases num_c (p := p2) hM.2.2.2.2.1 with ⟨n1, n2⟩ | ⟨n1, n2, n3, n4⟩
    · by_cases q : wi p2 1 9999 = 0
      · exact ⟨0, S, F, by rw [if_pos q], by rw [if_pos n1], Or.inl rfl, hz⟩
      · rw [if_neg q, if_pos n1]
        by_cases q3 : wi p3 0 1000000 = 0
        · exact ⟨0, S, F, by rw [if_pos q3], rfl, Or.inl rfl, hz⟩
        · refine ⟨0, nrm S j, F, ?_, rfl, Or.inl rfl, hN⟩
          rw [if_neg q3, if_neg (n2.resolve_left q), zb2_s, if_pos (Or.inl rfl)]
          rfl
    · rw [if_neg n2, if_neg n1]
      by_cases q3 : wi p3 0 1000000 = 0
      · exact ⟨0, S, F, by rw [if_pos q3], by rw [if_pos q3], Or.inl rfl, hz⟩
      · rw [if_neg q3, if_neg q3, if_pos n3, zl_e, zl_e, zb2_s, if_pos (Or.inr rfl)]
        have hP : zu (zu F 27 j p2) 28 j p3 = put F j (va_up (va_up (S j 0) 11 p2) 12 p3) (S j 2) (S j 3) (S j 4) := by
          conv => lhs; rw [← hF]
          rw [put_w27, put_w28]
        rw [hP]
        refine ⟨1, _, _, rfl, rfl, Or.inr rfl, t, k, v, ht, ⟨hn, hR, ⟨h5, h25⟩, ⟨h7, h26⟩, ⟨hk, hk1, hk2⟩, ?_, hK, hO, hC⟩, h0⟩
        exact BR_g hB hj (MI_tn hM n4 p3) rfl (GV_j hB.2.2.2.2.2 hj (Or.inl rfl))
