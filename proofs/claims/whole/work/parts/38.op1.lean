/-! the calls, one by one -/
def ZR (n : Nat) (g fO to gR gD : zF) (S : Nat → Nat → zF) (C : Nat → Option Nat) (g2 : zF) (F : Nat → zF) : Prop := ∃ t k v, t ≤ 100000 ∧ ZT n t k v g fO to gR gD S C g2 F ∧ g2 0 = gD 0
theorem ZR_dg {n t k : Nat} {v : Int32} {g fO to gR gD : zF} {S : Nat → Nat → zF} {C : Nat → Option Nat} {g2 : zF} {F : Nat → zF} (ht : t ≤ 100000) (h : ZT n t k v g fO to gR gD S C g2 F) : ZR n g fO to gR gD S C (dg g2 gD) F := by
  obtain ⟨hn, hR, ⟨h5, h25⟩, ⟨h7, h26⟩, ⟨hk, hk1, hk2⟩, hB, hK, hO, hC⟩ := h
  exact ⟨t, k, v, ht, ⟨hn, hR, ⟨h5, h25⟩, ⟨h7, h26⟩, ⟨hk, hk1, hk2⟩, hB, hK, hO, hC⟩, rfl⟩
theorem wi_01 (x a b : Int32) : wi x a b = 0 ∨ wi x a b = 1 := by
  unfold wi
  by_cases h : x < a
  · rw [if_pos h]; exact Or.inl rfl
  · rw [if_neg h]
    by_cases h2 : b < x
    · rw [if_pos h2]; exact Or.inl rfl
    · rw [if_neg h2]; exact Or.inr rfl
theorem wi_n0 {x a b : Int32} (h : ¬ wi x a b = 0) : ¬ x < a ∧ ¬ b < x := by
  unfold wi at h
  by_cases h1 : x < a
  · rw [if_pos h1] at h; exact absurd rfl h
  · rw [if_neg h1] at h
    by_cases h2 : b < x
    · rw [if_pos h2] at h; exact absurd rfl h
    · exact ⟨h1, h2⟩
theorem wi_bd {x : Int32} {a b : Nat} (hb : b < 2 ^ 31) (ha : a ≤ b) (h : ¬ wi x (nI a) (nI b) = 0) : ∃ m : Nat, a ≤ m ∧ m ≤ b ∧ x = nI m := by
  obtain ⟨h1, h2⟩ := wi_n0 h
  have h0 : ¬ x < 0 := fun h => h1 (Int32.lt_of_lt_of_le h (nI_pos' (by omega)))
  obtain ⟨m, m1, rfl⟩ := nI_of h0
  refine ⟨m, ?_, ?_, rfl⟩
  · rcases Nat.lt_or_ge m a with l | l
    · exact absurd (nI_lt l (by omega)) h1
    · exact l
  · rcases Nat.lt_or_ge b m with l | l
    · exact absurd (nI_lt l m1) h2
    · exact l
theorem mach_c {n : Nat} (hn : n ≤ 12) {g g2 : zF} (h5 : g 5 = nI n) (h25 : g2 5 = nI n) (F : Nat → zF) (p : Int32) : (s_X7_isMachine g2 F p = some 0 ∧ zmA n p = none) ∨ ∃ j, j < n ∧ p = nI j ∧ s_X7_isMachine g2 F p = some 1 := by
  unfold s_X7_isMachine zmA
  rw [wi7, h25]
  rcases pk_ix p (n := n) (by omega) with h | h | ⟨j, hj, rfl⟩
  · left
    have e : wi p 0 (nI n - 1) = 0 := by unfold wi; rw [if_pos h]
    rw [e, zb1_s, if_pos (Or.inl rfl), if_pos h]
    exact ⟨rfl, rfl⟩
  · left
    by_cases h0 : p < 0
    · have e : wi p 0 (nI n - 1) = 0 := by unfold wi; rw [if_pos h0]
      rw [e, zb1_s, if_pos (Or.inl rfl), if_pos h0]
      exact ⟨rfl, rfl⟩
    · have hl : nI n - 1 < p := by
        cases n with
        | zero => exact Int32.lt_of_lt_of_le (by decide : nI 0 - 1 < 0) (Int32.not_lt.mp h0)
        | succ m =>
          rw [nI_pred]
          exact Int32.lt_of_lt_of_le (nI_lt (by omega) (by omega)) h
      have e : wi p 0 (nI n - 1) = 0 := by unfold wi; rw [if_neg h0, if_pos hl]
      rw [e, zb1_s, if_pos (Or.inl rfl), if_neg h0, if_pos h]
      exact ⟨rfl, rfl⟩
  · right
    refine ⟨j, hj, rfl, ?_⟩
    cases n with
    | zero => omega
    | succ m =>
      rw [nI_pred, wi_in (nI_pos (by omega)) (nI_nlt (by omega) (by omega)), zb1_s, if_pos (Or.inr rfl)]
theorem at_n {β : Type} {n : Nat} {g : zF} (h5 : g 5 = nI n) {p : Int32} (h : zmA n p = none) (k1 : Option β) (k2 : Nat → Option β) : zat n g p k1 k2 = k1 := by
  unfold zat
  rw [if_pos h5, h]
  rfl
/-- seed -/
theorem seed_op {n : Nat} {g fO to gR gD : zF} {S : Nat → Nat → zF} {C : Nat → Option Nat} {g2 : zF} {F : Nat → zF} (h : ZR n g fO to gR gD S C g2 F) (p1 : Int32) : s_X6_seed g gD p1 = some (va_up gD 0 p1) ∧ s_X7_seed g2 F p1 = some (va_up g2 0 p1) ∧ ZR n g fO to gR (va_up gD 0 p1) S C (va_up g2 0 p1) F := by
  obtain ⟨t, k, v, ht, ⟨hn, hR, ⟨h5, h25⟩, ⟨h7, h26⟩, ⟨hk, hk1, hk2⟩, hB, hK, hO, hC⟩, h0⟩ := h
  refine ⟨?_, ?_, t, k, v, ht, ⟨hn, hR, ⟨h5, h25⟩, ⟨h7, h26⟩, ⟨hk, hk1, hk2⟩, hB, hK, hO, hC⟩, rfl⟩
  · unfold s_X6_seed; rw [zl_e]
  · unfold s_X7_seed; rw [zl_e]
/-- rules -/
theorem rules_op {n : Nat} {g fO to gR gD : zF} {S : Nat → Nat → zF} {C : Nat → Option Nat} {g2 : zF} {F : Nat → zF} (h : ZR n g fO to gR gD S C g2 F) (p1 p2 p3 p4 : Int32) : ∃ r gR' g2', s_X6_rules g gR p1 p2 p3 p4 = some (r, gR') ∧ s_X7_rules g2 F p1 p2 p3 p4 = some (r, g2') ∧ (r = 0 ∨ r = 1) ∧ ZR n g fO to gR' gD S C g2' F := by
  have hz := h
  obtain ⟨t, k, v, ht, ⟨hn, hR, ⟨h5, h25⟩, ⟨h7, h26⟩, ⟨hk, hk1, hk2⟩, hB, hK, hO, hC⟩, h0⟩ := h
  unfold s_X6_rules s_X7_rules s_X6_rules_b46 s_X6_rules_b47
  simp -implicitDefEqProofs only [wi6, wi7, zb1_s, zl_e, h5, h25, if_true, if_neg one_ne]
  by_cases c1 : wi p1 1 9 = 0
  · exact ⟨0, gR, g2, by rw [if_pos c1], by rw [if_pos c1], Or.inl rfl, hz⟩
  · rw [if_neg c1, if_neg c1]
    by_cases c2 : wi p2 2 64 = 0
    · exact ⟨0, gR, g2, by rw [if_pos c2], by rw [if_pos c2], Or.inl rfl, hz⟩
    · rw [if_neg c2, if_neg c2]
      by_cases c3 : wi p3 p2 1024 = 0
      · exact ⟨0, gR, g2, by rw [if_pos c3], by rw [if_pos c3], Or.inl rfl, hz⟩
      · rw [if_neg c3, if_neg c3]
        by_cases c4 : wi p4 1 32 = 0
        · exact ⟨0, gR, g2, by rw [if_pos c4], by rw [if_pos c4], Or.inl rfl, hz⟩
        · rw [if_neg c4, if_neg c4]
          by_cases c5 : nI n ≤ 0
          · refine ⟨1, _, _, by rw [if_pos c5], by rw [if_pos c5], Or.inr rfl, ?_⟩
            obtain ⟨m2, a1, a2, rfl⟩ := wi_bd (x := p2) (a := 2) (b := 64) (by decide) (by decide) c2
            obtain ⟨m3, b1, b2, rfl⟩ := wi_bd (x := p3) (a := m2) (b := 1024) (by decide) (by omega) c3
            obtain ⟨m4, d1, d2, rfl⟩ := wi_bd (x := p4) (a := 1) (b := 32) (by decide) (by decide) c4
            refine ⟨t, k, v, ht, ⟨hn, ⟨rfl, rfl, rfl, rfl, ⟨m2, by omega, a2, rfl⟩, ⟨m3, by omega, b2, rfl⟩, ⟨m4, d1, d2, rfl⟩⟩, ⟨h5, h25⟩, ⟨h7, h26⟩, ⟨hk, hk1, hk2⟩, hB, hK, hO, hC⟩, h0⟩
          · exact ⟨0, gR, g2, by rw [if_neg c5], by rw [if_neg c5], Or.inl rfl, hz⟩
/-- machine, the field full -/
theorem mach_full {g fO to gR gD : zF} {S : Nat → Nat → zF} {C : Nat → Option Nat} {g2 : zF} {F : Nat → zF} (h : ZR 12 g fO to gR gD S C g2 F) : s_X6_machine g fO to gR gD S C 12 = some (-1) ∧ s_X7_machine g2 F = some (-1, g2, F) := by
  obtain ⟨t, k, v, ht, ⟨hn, hR, ⟨h5, h25⟩, -⟩, -⟩ := h
  refine ⟨?_, ?_⟩
  · unfold s_X6_machine
    rw [zl_e, h5, if_neg (by decide), if_neg (by decide)]
  · unfold s_X7_machine
    rw [h25, if_pos (by decide)]
theorem gM0_e : gM0 = va_up z0 10 (-1) := rfl
theorem mach_new {n : Nat} (hl : n < 12) {g fO to gR gD : zF} {S : Nat → Nat → zF} {C : Nat → Option Nat} {g2 : zF} {F : Nat → zF} (h : ZR n g fO to gR gD S C g2 F) : ∃ gI1 gD1 g2' F', s_X2_begin (fun _ => 0) gD (gR 1) (g 7) = some (gI1, gD1) ∧ s_X7_machine g2 F = some (g 5, g2', F') ∧ g 5 = nI n ∧ CB n C ∧ ZR (n + 1) (va_up g 5 (g 5 + 1)) fO to gR gD1 (va_up S n (zs6 gM0 (fun _ => 0) (fun _ => 0) (fun _ => 0) gI1 (fun _ => 0))) (va_up C n none) g2' F' := by
  obtain ⟨t, k, v, ht, ⟨hn, hR, ⟨h5, h25⟩, ⟨h7, h26⟩, ⟨hk, hk1, hk2⟩, hB, hK, hO, hC⟩, h0⟩ := h
  obtain ⟨hR1, hR2, hR3, hR4, ⟨a, a1, a2, ha⟩, hR6, hR7⟩ := hR
  obtain ⟨b1, b2, b3, b4, b5, b6⟩ := hB
  have hFn := b2 n (Nat.le_refl n)
  refine ⟨bgI z0 gD (nI a) (g 7), drD gD, dg (va_up g2 5 (nI n + 1)) (drD gD), put F n (va_up z0 10 (-1)) z0 z0 (bgI z0 gD (nI a) (g 7)), ?_, ?_, h5, hC, ?_⟩
  · rw [ha]; exact bgC z0 gD a1 (by omega) (g 7)
  · unfold s_X7_machine
    have e2 : va_up g2 5 (nI n + 1) 2 = gR 1 := hR2
    have e6 : va_up g2 5 (nI n + 1) 6 = g 7 := h26.trans h7.symm
    have hn12 : ¬ nI n = 12 := fun e => by
      have e2 : nI n = nI 12 := e
      rw [nI_eq (by omega) (by omega)] at e2
      omega
    rw [h25, if_neg hn12, zl_e, zl_e, e2, e6]
    have hj := hl
    conv => lhs; rw [← hFn]
    simp -implicitDefEqProofs only [nj_n hj, nj_cl hj, nj_l hj, or_self, if_false, zl_e, put_r11, put_r12, put_r13, put_r16, put_r21, put_r27, put_r28, put_r22, put_r23, put_r24, put_r25, put_r26, put_r17, put_r18, put_r19, put_r20, put_w11, put_w12, put_w13, put_w16, put_w21, put_w27, put_w28, put_w22, put_w23, put_w24, put_w25, put_w26, put_w17, put_w18, put_w19, put_w20, dg_0, dg_1, dg_2, dg_3, dg_4, dg_5, dg_6, dg_7, dg_8, dg_29, dg_30, ha]
    have hd : va_up g2 5 (nI n + 1) = dg (va_up g2 5 (nI n + 1)) gD := (dg_self (show va_up g2 5 (nI n + 1) 0 = gD 0 from h0)).symm
    rw [hd, bg7 _ gD F hl (va_up z0 10 (-1)) z0 z0 z0 a1 (by omega), zb2_s, ← hd, h5]
  · refine ZR_dg (t := t) (k := k) (v := v) ht ⟨by omega, ⟨hR1, hR2, hR3, hR4, ⟨a, a1, a2, ha⟩, hR6, hR7⟩, ⟨?_, ?_⟩, ⟨h7, h26⟩, ⟨hk, hk1, hk2⟩, ?_, hK, hO, ?_⟩
    · show g 5 + 1 = nI (n + 1)
      rw [h5, nI_s]
    · show nI n + 1 = nI (n + 1)
      rw [nI_s]
    · have ho : ∀ i, i ≠ n → va_up S n (zs6 gM0 (fun _ => 0) (fun _ => 0) (fun _ => 0) (bgI z0 gD (nI a) (g 7)) (fun _ => 0)) i = S i := fun i hi => by rw [up_ap, if_neg hi]
      have hnn : va_up S n (zs6 gM0 (fun _ => 0) (fun _ => 0) (fun _ => 0) (bgI z0 gD (nI a) (g 7)) (fun _ => 0)) n = zs6 gM0 (fun _ => 0) (fun _ => 0) (fun _ => 0) (bgI z0 gD (nI a) (g 7)) (fun _ => 0) := by rw [up_ap, if_pos rfl]
      refine ⟨fun i hi => ?_, fun i hi => ?_, fun i hi => ?_, fun i hi => ?_, ?_, ?_⟩
      · by_cases e : i = n
        · subst e
          rw [hnn]
          refine ⟨put_put _ _ _ _ _ _ _ _ _ _, ?_, ?_, ⟨0, by omega, nI_0.symm⟩, ⟨0, by omega, nI_0.symm⟩, ⟨0, by omega, nI_0.symm⟩, Or.inl rfl, bg_SI z0 gD a1 (by omega) _⟩
          · show (0 : Int32) = nI (ctN (fun _ => 0) 12)
            rw [ct_z 12 (fun _ _ => rfl), nI_0]
          · exact BI_z (fun _ _ => rfl)
        · rw [ho i e, put_cm F e, (b1 i (by omega)).1]
          exact ⟨rfl, (b1 i (by omega)).2⟩
      · rw [put_cm F (by omega), b2 i (by omega)]
      · rw [put_r9]; exact b3 i hi
      · rw [put_r10]; exact b4 i hi
      · show g2 7 = _
        rw [tot, hnn, tot_cg n (fun i hi => by rw [ho i (by omega)]), b5]
        show tot S n = tot S n + (0 + 0)
        rw [Int32.add_zero, Int32.add_zero]
      · obtain ⟨q1, q2, q3⟩ := b6
        refine ⟨fun i hi => ?_, ?_, q3⟩
        · by_cases e : i = n
          · subst e
            rw [hnn]
            exact bd_0 (by decide) q3
          · rw [ho i e]; exact q1 i (by omega)
        · rcases q2 with e | ⟨i, i1, i2⟩
          · exact Or.inl e
          · exact Or.inr ⟨i, by omega, by rw [ho i (by omega)]; exact i2⟩
    · intro i m hi hm
      rw [up_ap] at hm
      by_cases e : i = n
      · rw [if_pos e] at hm; cases hm
      · rw [if_neg e] at hm
        have := hC i m (by omega) hm
        omega
theorem odd_c {p : Int32} (h : ¬ p < -1) : p = -1 ∨ 0 ≤ p := by
  by_cases h0 : 0 ≤ p
  · exact Or.inr h0
  · left
    have h1 := Int32.not_le.mp h0
    rw [Int32.lt_iff_toInt_lt] at h h1
    apply Int32.toInt_inj.mp
    have e1 : (-1 : Int32).toInt = -1 := by decide
    have e0 : (0 : Int32).toInt = 0 := by decide
    rw [e1] at h ⊢
    rw [e0] at h1
    omega
theorem BR_F {n : Nat} {to fO to' fO' : zF} {v : Int32} {S : Nat → Nat → zF} {x : Int32} {F F' : Nat → zF} (h : BR n to fO v S x F) (hF : ∀ k i, k ≠ 9 → k ≠ 10 → F' k i = F k i) (h9 : ∀ i, i < 12 → F' 9 i = to' i) (h10 : ∀ i, i < 144 → F' 10 i = fO' i) : BR n to' fO' v S x F' := by
  obtain ⟨b1, b2, b3, b4, b5, b6⟩ := h
  have key : ∀ j gM mk mx gI, put F j gM mk mx gI = F → put F' j gM mk mx gI = F' := by
    intro j gM mk mx gI hp
    funext k i
    by_cases e9 : k = 9
    · subst e9; rw [put_r9]
    · by_cases e10 : k = 10
      · subst e10; rw [put_r10]
      · rw [put_lo (hF k i e9 e10), hp, hF k i e9 e10]
  exact ⟨fun j hj => ⟨key _ _ _ _ _ (b1 j hj).1, (b1 j hj).2⟩, fun j hj => key _ _ _ _ _ (b2 j hj), h9, h10, b5, b6⟩
/-- hears -/
theorem hears_op {n : Nat} {g fO to gR gD : zF} {S : Nat → Nat → zF} {C : Nat → Option Nat} {g2 : zF} {F : Nat → zF} (h : ZR n g fO to gR gD S C g2 F) (p1 p2 p3 : Int32) : ∃ r fO' F', s_X6_hears g fO to gR gD S C n p1 p2 p3 = some (r, fO') ∧ s_X7_hears g2 F p1 p2 p3 = some (r, F') ∧ (r = 0 ∨ r = 1) ∧ ZR n g fO' to gR gD S C g2 F' := by
  have hz := h
  obtain ⟨t, k, v, ht, ⟨hn, hR, ⟨h5, h25⟩, ⟨h7, h26⟩, ⟨hk, hk1, hk2⟩, hB, hK, hO, hC⟩, h0⟩ := h
  unfold s_X6_hears s_X7_hears
  rcases mach_c hn h5 h25 F p1 with ⟨c1, c2⟩ | ⟨j, hj, rfl, c1⟩
  · exact ⟨0, fO, F, by rw [at_n h5 c2], by rw [c1, zb1_s, if_pos rfl], Or.inl rfl, hz⟩
  · rw [at_s hn h5 hj, c1, zb1_s, if_neg one_ne]
    rcases mach_c hn h5 h25 F p2 with ⟨d1, d2⟩ | ⟨i, hi, rfl, d1⟩
    · exact ⟨0, fO, F, by rw [at_n h5 d2], by rw [d1, zb1_s, if_pos rfl], Or.inl rfl, hz⟩
    · rw [at_s hn h5 hi, d1, zb1_s, if_neg one_ne, wi6, wi7, zb1_s, zb1_s]
      by_cases e1 : nI j = nI i
      · exact ⟨0, fO, F, by rw [if_pos e1], by rw [if_pos e1], Or.inl rfl, hz⟩
      · rw [if_neg e1, if_neg e1]
        by_cases e2 : wi p3 (-1) 100 = 0
        · exact ⟨0, fO, F, by rw [if_pos e2], by rw [if_pos e2], Or.inl rfl, hz⟩
        · have hj12 : j < 12 := by omega
          have hi12 : i < 12 := by omega
          have h1 : ¬ nI (12 * j + i) = -1 := fun e => nI_pos (n := 12 * j + i) (by omega) (by rw [e]; decide)
          rw [if_neg e2, if_neg e2, pair_e g fO hj12 hi12, zb1_s, if_neg h1, if_neg (nI_in (by omega) (by omega)), nI_clamp (by omega), zl_e, ix_e, if_neg (nI_in (by omega) (by omega)), nI_clamp (by omega), zl_e]
          refine ⟨1, _, _, rfl, rfl, Or.inr rfl, t, k, v, ht, ⟨hn, hR, ⟨h5, h25⟩, ⟨h7, h26⟩, ⟨hk, hk1, hk2⟩, ?_, hK, ?_, hC⟩, h0⟩
          · refine BR_F hB (fun k' i' _ h => by rw [zu_ap, if_neg (by omega)]) (fun i' hi' => by rw [zu_ap, if_neg (by omega)]; exact hB.2.2.1 i' hi') (fun i' hi' => ?_)
            rw [zu_ap, upd_ap]
            by_cases e : i' = 12 * j + i
            · rw [if_pos ⟨rfl, e⟩, if_pos e]
            · rw [if_neg (fun q => e q.2), if_neg e]; exact hB.2.2.2.1 i' hi'
          · intro i' hi'
            rw [upd_ap]
            by_cases e : i' = 12 * j + i
            · rw [if_pos e]; exact odd_c (wi_n0 e2).1
            · rw [if_neg e]; exact hO i' hi'
