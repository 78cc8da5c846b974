/-! ticks -/
def LK (g G : zF) (v : Int32) : Prop := g 8 = v ∧ G 29 ≤ v ∧ g 9 = (if G 29 = v then G 30 else -1) ∧ (G 30 = -1 ∨ 0 ≤ G 30)
theorem lk23 {fO to : zF} {n : Nat} {v x : Int32} {S : Nat → Nat → zF} {F : Nat → zF} (hn : n ≤ 12) {G gD : zF} (h5 : G 5 = nI n) (hB : BR n to fO v S x F) : s_X7_look_b23 F (dg G gD) v = some (dg (if (decide (¬ v = 0) && alN S v n) = true then (if 0 ≤ G 30 then G else va_up G 30 (G 6)) else G) gD) := by
  have hv := bd_z (by decide) hB.2.2.2.2.2.2.2
  have h25 : dg G gD 5 = nI n := h5
  have key : ∀ a : Bool, s_X7_look_b35 F 13 (dg G gD) v (if a = true then 1 else 0) 0 = some (dg (if (a && alN S v n) = true then (if 0 ≤ G 30 then G else va_up G 30 (G 6)) else G) gD) := by
    intro a
    rw [lk_r hn h25 hB a n (Nat.le_refl n), show 13 - n = (12 - n) + 1 by omega, s_X7_look_b35, h25, if_pos (nI_le (Nat.le_refl n) (by omega))]
    by_cases q : (a && alN S v n) = true
    · rw [if_pos q, if_neg one_ne, if_pos q, dg_30]
      by_cases c : 0 ≤ G 30
      · rw [if_pos c, if_pos c]
      · rw [if_neg c, if_neg c, zl_e, dg_6, dg_w _ _ (by decide)]
    · rw [if_neg q, if_pos rfl, if_neg q]
  unfold s_X7_look_b23
  by_cases c : v = 0
  · have h := key false
    rw [if_pos (hv.mpr c), decide_eq_false (fun h => h c)]
    exact h
  · have h := key true
    rw [if_neg (fun h => c (hv.mp h)), decide_eq_true c]
    exact h
theorem look_sim {gR g G fO to : zF} {n : Nat} {v x : Int32} {S : Nat → Nat → zF} {F : Nat → zF} (C : Nat → Option Nat) (hG : HG gR n g G) (gD : zF) (hB : BR n to fO v S x F) (hK : LK g G v) : ∃ g' G', s_X6_noteAllWhole g fO to gR gD S C n = some g' ∧ s_X7_look (dg G gD) F = some (dg G' gD) ∧ LK g' G' v ∧ (∀ k, k ≠ 9 → g' k = g k) ∧ (∀ k, k ≠ 29 → k ≠ 30 → G' k = G k) := by
  obtain ⟨hn, hR, h5, h25, hT, h7⟩ := hG
  obtain ⟨k1, k2, k3, k4⟩ := hK
  obtain ⟨t, t1, t2⟩ := hT
  have hg9 : g 9 = -1 ∨ 0 ≤ g 9 := by
    rw [k3]
    by_cases c : G 29 = v
    · rw [if_pos c]; exact k4
    · rw [if_neg c]; exact Or.inl rfl
  have hG1 : ∃ G1 : zF, s_X7_look (dg G gD) F = s_X7_look_b23 F (dg G1 gD) v ∧ G1 29 = v ∧ G1 30 = g 9 ∧ (∀ k, k ≠ 29 → k ≠ 30 → G1 k = G k) := by
    unfold s_X7_look
    rw [gk_e hn (show dg G gD 5 = nI n from h25) hB, zb1_s, dg_29]
    by_cases c : v ≤ G 29
    · have e : G 29 = v := Int32.le_antisymm k2 c
      refine ⟨G, by rw [if_pos c], e, ?_, fun _ _ _ => rfl⟩
      rw [k3, if_pos e]
    · refine ⟨va_up (va_up G 29 v) 30 (-1), ?_, rfl, ?_, fun k h1 h2 => ?_⟩
      · rw [if_neg c, zl_e, zl_e, dg_w _ _ (by decide), dg_w _ _ (by decide)]
      · rw [k3, if_neg (fun e => c (by rw [e]; exact Int32.le_refl v))]
        rfl
      · rw [up_ap, if_neg h2, up_ap, if_neg h1]
  obtain ⟨G1, q1, q2, q3, q4⟩ := hG1
  have q5 : G1 5 = nI n := by rw [q4 5 (by decide) (by decide)]; exact h25
  have q6 : G1 6 = g 7 := by rw [q4 6 (by decide) (by decide)]; exact h7.symm
  have hsame : LK g G1 v := ⟨k1, by rw [q2]; exact Int32.le_refl v, by rw [if_pos q2, q3], by rw [q3]; exact hg9⟩
  have hna : ∀ (c9 : g 9 = -1) (c8 : ¬ g 8 = 0), s_X6_noteAllWhole g fO to gR gD S C n = some (if alN S (g 8) n = true then va_up g 9 (g 7) else g) := by
    intro c9 c8
    unfold s_X6_noteAllWhole
    rw [if_pos c9, if_neg c8]
    have h := na_r (fO := fO) (to := to) (gR := gR) hn h5 gD S C n 0 (by omega) rfl 13 (by omega)
    rw [nI_0] at h
    exact h
  rw [q1, lk23 hn q5 hB]
  by_cases c0 : v = 0
  · refine ⟨g, G1, ?_, ?_, hsame, fun _ _ => rfl, q4⟩
    · unfold s_X6_noteAllWhole
      by_cases c9 : g 9 = -1
      · rw [if_pos c9, if_pos (by rw [k1]; exact c0)]
      · rw [if_neg c9]
    · rw [decide_eq_false (fun h => h c0)]
      rfl
  · rw [decide_eq_true c0, Bool.true_and]
    have c8 : ¬ g 8 = 0 := by rw [k1]; exact c0
    by_cases c9 : g 9 = -1
    · have n30 : ¬ 0 ≤ G1 30 := by rw [q3, c9]; decide
      rw [hna c9 c8, k1]
      by_cases a : alN S v n = true
      · rw [if_pos a, if_pos a, if_neg n30]
        refine ⟨_, _, rfl, rfl, ⟨k1, ?_, ?_, ?_⟩, fun k hk => by rw [up_ap, if_neg hk], fun k h1 h2 => by rw [up_ap, if_neg h2]; exact q4 k h1 h2⟩
        · show G1 29 ≤ v
          rw [q2]; exact Int32.le_refl v
        · show g 7 = if G1 29 = v then G1 6 else -1
          rw [if_pos q2, q6]
        · show G1 6 = -1 ∨ 0 ≤ G1 6
          rw [q6, h7, t2]; exact Or.inr (nI_pos' (by omega))
      · rw [if_neg a, if_neg a]
        exact ⟨_, _, rfl, rfl, hsame, fun _ _ => rfl, q4⟩
    · have n30 : 0 ≤ G1 30 := by rw [q3]; exact hg9.resolve_left c9
      refine ⟨g, G1, ?_, ?_, hsame, fun _ _ => rfl, q4⟩
      · unfold s_X6_noteAllWhole
        rw [if_neg c9]
      · rw [if_pos n30]
        by_cases a : alN S v n = true
        · rw [if_pos a]
        · rw [if_neg a]
def CB (n : Nat) (C : Nat → Option Nat) : Prop := ∀ j k, j < n → C j = some k → k < n
def OD (fO : zF) : Prop := ∀ i, i < 144 → fO i = -1 ∨ 0 ≤ fO i
def ZT (n t k : Nat) (v : Int32) (g fO to gR gD : zF) (S : Nat → Nat → zF) (C : Nat → Option Nat) (g2 : zF) (F : Nat → zF) : Prop := n ≤ 12 ∧ RU gR g2 ∧ (g 5 = nI n ∧ g2 5 = nI n) ∧ (g 7 = nI t ∧ g2 6 = nI t) ∧ (k ≤ 12 ∧ g 6 = nI k ∧ g2 8 = nI k) ∧ BR n to fO v S (g2 7) F ∧ LK g g2 v ∧ OD fO ∧ CB n C
theorem tick_sim {n t k : Nat} {v : Int32} {g fO to gR gD : zF} {S : Nat → Nat → zF} {C : Nat → Option Nat} {g2 : zF} {F : Nat → zF} (ht : t ≤ 100000) (h : ZT n t k v g fO to gR gD S C g2 F) : ∃ g' gD' S' C' g2' F', (∀ f l1 l2, ¬ l1 ≤ l2 → s_X6_ticks_b26 fO to gR n (f + 1) g gD S C l1 l2 = s_X6_ticks_b26 fO to gR n f g' gD' S' C' l1 (l2 + 1)) ∧ (∀ f l1 l2, ¬ l1 ≤ l2 → s_X7_ticks_b26 (f + 1) (dg g2 gD) F l1 l2 = s_X7_ticks_b26 f (dg g2' gD') F' l1 (l2 + 1)) ∧ ZT n (t + 1) k v g' fO to gR gD' S' C' g2' F' := by
  obtain ⟨hn, hR, ⟨h5, h25⟩, ⟨h7, h26⟩, ⟨hk, hk1, hk2⟩, hB, hK, hO, hC⟩ := h
  have hG : HG gR n g g2 := ⟨hn, hR, h5, h25, ⟨t, ht, h26⟩, h7.trans h26.symm⟩
  obtain ⟨gD1, S1, x1, F1, p1, p2, p3, p4⟩ := send_all C hG gD S (g2 7) F hB
  rw [up_id] at p2
  have hG1 : HG gR n g (va_up g2 7 x1) := hG
  have hK1 : LK g (va_up g2 7 x1) v := hK
  obtain ⟨gD2, S2, C2, F2, r1, r2, r3, r4, r5⟩ := hear_all C hG1 hO gD1 S1 x1 F1 p3 p4
  obtain ⟨gD3, S3, F3, u1, u2, u3⟩ := work_all C2 hG1 gD2 S2 x1 F2 r3 r4 r5
  obtain ⟨gD4, S4, F4, w1, w2, w3⟩ := end_all C2 hG1 gD3 S3 x1 F3 u3
  obtain ⟨g5, G5, y1, y2, y3, y4, y5⟩ := look_sim C2 hG1 gD4 w3 hK1
  refine ⟨va_up g5 7 (g5 7 + 1), gD4, S4, C2, va_up G5 6 (G5 6 + 1), F4, ?_, ?_, hn, ?_, ⟨?_, ?_⟩, ⟨?_, ?_⟩, ⟨hk, ?_, ?_⟩, ?_, ?_, hO, ?_⟩
  · intro f l1 l2 hl
    rw [s_X6_ticks_b26, if_neg hl, p1, zb2_s, r1, zb3_s, u1, zb2_s, w1, zb2_s, y1, zb1_s]
    simp -implicitDefEqProofs only [zl_e]
  · intro f l1 l2 hl
    rw [s_X7_ticks_b26, if_neg hl, p2]
    rw [r2]
    rw [u2]
    rw [w2]
    rw [y2, zb1_s]
    simp -implicitDefEqProofs only [zl_e]
    rw [dg_6, dg_w _ _ (by decide)]
  · obtain ⟨a1, a2, a3, a4, a5⟩ := hR
    refine ⟨?_, ?_, ?_, ?_, a5⟩
    · show G5 1 = gR 0
      rw [y5 1 (by decide) (by decide)]; exact a1
    · show G5 2 = gR 1
      rw [y5 2 (by decide) (by decide)]; exact a2
    · show G5 3 = gR 2
      rw [y5 3 (by decide) (by decide)]; exact a3
    · show G5 4 = gR 3
      rw [y5 4 (by decide) (by decide)]; exact a4
  · show g5 5 = nI n
    rw [y4 5 (by decide)]; exact h5
  · show G5 5 = nI n
    rw [y5 5 (by decide) (by decide)]; exact h25
  · show g5 7 + 1 = nI (t + 1)
    rw [y4 7 (by decide), h7, nI_s]
  · show G5 6 + 1 = nI (t + 1)
    rw [y5 6 (by decide) (by decide), show va_up g2 7 x1 6 = g2 6 from rfl, h26, nI_s]
  · show g5 6 = nI k
    rw [y4 6 (by decide)]; exact hk1
  · show G5 8 = nI k
    rw [y5 8 (by decide) (by decide)]; exact hk2
  · have e : va_up G5 6 (G5 6 + 1) 7 = x1 := by
      show G5 7 = x1
      rw [y5 7 (by decide) (by decide)]; rfl
    rw [e]; exact w3
  · exact y3
  · exact fun j m hj hm => ((r5 j hj).2 m hm).1
theorem tk_r {n t k m : Nat} {v : Int32} {fO to gR : zF} {g gD : zF} {S : Nat → Nat → zF} {C : Nat → Option Nat} {g2 : zF} {F : Nat → zF} (ht : t + m ≤ 100000) (hm : m ≤ 200) (h : ZT n t k v g fO to gR gD S C g2 F) : ∀ i, i ≤ m → ∃ g' gD' S' C' g2' F', s_X6_ticks_b26 fO to gR n 201 g gD S C (nI m) 0 = s_X6_ticks_b26 fO to gR n (201 - i) g' gD' S' C' (nI m) (nI i) ∧ s_X7_ticks_b26 201 (dg g2 gD) F (nI m) 0 = s_X7_ticks_b26 (201 - i) (dg g2' gD') F' (nI m) (nI i) ∧ ZT n (t + i) k v g' fO to gR gD' S' C' g2' F'
  | 0, _ => ⟨g, gD, S, C, g2, F, by rw [nI_0, Nat.sub_zero], by rw [nI_0, Nat.sub_zero], h⟩
  | i + 1, hi => by
    obtain ⟨g1, gD1, S1, C1, g21, F1, p1, p2, p3⟩ := tk_r ht hm h i (by omega)
    obtain ⟨g', gD', S', C', g2', F', q1, q2, q3⟩ := tick_sim (by omega) p3
    refine ⟨g', gD', S', C', g2', F', ?_, ?_, q3⟩
    · rw [p1, show 201 - i = (201 - (i + 1)) + 1 by omega, q1 _ _ _ (nI_ge (by omega) (by omega)), nI_s]
    · rw [p2, show 201 - i = (201 - (i + 1)) + 1 by omega, q2 _ _ _ (nI_ge (by omega) (by omega)), nI_s]
theorem tk_e {n t k m : Nat} {v : Int32} {fO to gR : zF} {g gD : zF} {S : Nat → Nat → zF} {C : Nat → Option Nat} {g2 : zF} {F : Nat → zF} (ht : t + m ≤ 100000) (hm : m ≤ 200) (h : ZT n t k v g fO to gR gD S C g2 F) : ∃ g' gD' S' C' g2' F', s_X6_ticks_b26 fO to gR n 201 g gD S C (nI m) 0 = some (nI (t + m), g', gD', S', C') ∧ s_X7_ticks_b26 201 (dg g2 gD) F (nI m) 0 = some (nI (t + m), dg g2' gD', F') ∧ ZT n (t + m) k v g' fO to gR gD' S' C' g2' F' := by
  obtain ⟨g', gD', S', C', g2', F', p1, p2, p3⟩ := tk_r ht hm h m (Nat.le_refl m)
  refine ⟨g', gD', S', C', g2', F', ?_, ?_, p3⟩
  · rw [p1, show 201 - m = (200 - m) + 1 by omega, s_X6_ticks_b26, if_pos (nI_le (Nat.le_refl m) (by omega)), p3.2.2.2.1.1]
  · rw [p2, show 201 - m = (200 - m) + 1 by omega, s_X7_ticks_b26, if_pos (nI_le (Nat.le_refl m) (by omega)), dg_6, p3.2.2.2.1.2]
