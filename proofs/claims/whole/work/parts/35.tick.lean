/-! a tick: hearing, working, ending -/
theorem nrm_e (S : Nat → Nat → zF) (j : Nat) : va_up S j (zs6 (S j 0) (S j 1) (S j 2) (S j 3) (S j 4) (S j 5)) = nrm S j := rfl
theorem lc_e {g fO to gR : zF} {n : Nat} (hn : n ≤ 12) (h5 : g 5 = nI n) (gD : zF) (S : Nat → Nat → zF) (C : Nat → Option Nat) {j : Nat} (hj : j < 12) : s_X6_listen g fO to gR gD S C n j (nI j) = (if (lsn S fO j n).2 ≤ 1 then (if (lsn S fO j n).2 = 1 then (if odI fO j (lsn S fO j n).1 ≤ drA (gD 0) 100 then some (drD gD, nrm S j, va_up C j (lsn S fO j n).1) else some (drD gD, va_up S j (zs6 (va_up (S j 0) 16 (S j 0 16 + 1)) (S j 1) (S j 2) (S j 3) (S j 4) (S j 5)), C)) else some (gD, nrm S j, va_up C j (lsn S fO j n).1)) else some (gD, va_up S j (zs6 (va_up (S j 0) 15 (S j 0 15 + 1)) (S j 1) (S j 2) (S j 3) (S j 4) (S j 5)), C)) := by
  obtain ⟨f1, f2, f3⟩ := lsn_f S fO j n
  obtain ⟨c1, c2, c3⟩ := nI_c1 (c := (lsn S fO j n).2) (by omega)
  rw [cl_r hn h5 gD S C hj j n (Nat.le_refl n), show 13 - n = (12 - n) + 1 by omega, s_X6_listen_b11, h5, if_pos (nI_le (Nat.le_refl n) (by omega))]
  simp -implicitDefEqProofs only [zl_e, c1, c2, below_d gD b100.1 b100.2, zb2_s, nrm_e]
theorem HS_cv {n : Nat} {to fO : zF} {v x : Int32} {S S1 : Nat → Nat → zF} {C C1 : Nat → Option Nat} {F : Nat → zF} {j : Nat} {gD' : zF} {S' : Nat → Nat → zF} {C' : Nat → Option Nat} {F' : Nat → zF} (hS : ∀ m, S1 m 5 = S m 5) (hC : ∀ m, m ≠ j → C1 m = C m) (h : HS n to fO v x S1 C1 F j gD' S' C' F') : HS n to fO v x S C F j gD' S' C' F' := by
  obtain ⟨h1, h2, h3, h4, h5, h6⟩ := h
  exact ⟨h1, fun m => (h2 m).trans (hS m), h3, fun m hm => (h4 m hm).trans (hC m hm), h5, fun k hk => by rw [← hS k]; exact h6 k hk⟩
theorem BR_nrm {n : Nat} {to fO : zF} {v x : Int32} {S : Nat → Nat → zF} {F : Nat → zF} (hB : BR n to fO v S x F) {j : Nat} (hj : j < n) : BR n to fO v (nrm S j) x F := by
  have h := BR_up hB hj (L := F) (fun _ _ _ => rfl) (gL := S j 5) (mx := S j 3) (hB.1 j hj).2 (c := 0) (Int32.add_zero _).symm (Or.inl rfl)
  rw [Int32.add_zero, (hB.1 j hj).1] at h
  exact h
theorem nrm_5 (S : Nat → Nat → zF) (j m : Nat) : nrm S j m 5 = S m 5 := by
  unfold nrm
  by_cases e : m = j
  · subst e; rw [up_ap, if_pos rfl, zs_5]
  · rw [up_ap, if_neg e]
theorem hear_step {g fO to gR G : zF} {n : Nat} (hn : n ≤ 12) (h5 : g 5 = nI n) (h25 : G 5 = nI n) (gD : zF) {v x : Int32} {S : Nat → Nat → zF} (C : Nat → Option Nat) {F : Nat → zF} (hB : BR n to fO v S x F) {j : Nat} (hj : j < n) (h31 : ∀ i, i < n → F 31 i = S i 5 0) (hO : ∀ i, i < 144 → fO i = -1 ∨ 0 ≤ fO i) : ∃ gD' S' C' F', (∀ f, s_X6_hearLetters_b2 g fO to gR n (f + 1) gD S C (nI j) = s_X6_hearLetters_b2 g fO to gR n f gD' S' C' (nI (j + 1))) ∧ s_X7_listen (dg G gD) F (nI j) = some (dg G gD', F') ∧ HS n to fO v x S C F j gD' S' C' F' := by
  have hc0 : ∀ f, s_X6_hearLetters_b2 g fO to gR n (f + 1) gD S C (nI j) = (zb1 (s_X3_isSent (S j 5)) fun (v5 : Int32) => (if v5 = 0 then (zb3 (s_X6_listen g fO to gR gD (nrm S j) (va_up C j none) n j (nI j)) fun (gD13 : zF) (S14 : Nat → Nat → zF) (C15 : Nat → Option Nat) => (s_X6_hearLetters_b2 g fO to gR n f gD13 S14 C15 (nI (j + 1)))) else (s_X6_hearLetters_b2 g fO to gR n f gD (nrm S j) (va_up C j none) (nI (j + 1))))) := by
    intro f
    rw [s_X6_hearLetters_b2, h5, if_neg (nI_ge hj (by omega)), at_s hn h5 hj]
    simp -implicitDefEqProofs only [zl_e, nI_s, nrm_e]
  have hB1 := BR_nrm hB hj
  have hS1 := nrm_5 S j
  have hC1 : ∀ m, m ≠ j → va_up C j (none : Option Nat) m = C m := fun m hm => by rw [up_ap, if_neg hm]
  have hCj : va_up C j (none : Option Nat) j = none := by rw [up_ap, if_pos rfl]
  have h31' : ∀ i, i < n → F 31 i = nrm S j i 5 0 := fun i hi => by rw [hS1]; exact h31 i hi
  have hr := hs_ref hn (gD := gD) hB1 h25 hj h31' hO
  have hl := lc_e (fO := fO) (to := to) (gR := gR) hn h5 gD (nrm S j) (va_up C j none) (j := j) (by omega)
  by_cases s0 : S j 5 0 = 0
  · have s1 : nrm S j j 5 0 = 0 := by rw [hS1]; exact s0
    have hc : ∀ f, s_X6_hearLetters_b2 g fO to gR n (f + 1) gD S C (nI j) = (zb3 (s_X6_listen g fO to gR gD (nrm S j) (va_up C j none) n j (nI j)) fun (gD13 : zF) (S14 : Nat → Nat → zF) (C15 : Nat → Option Nat) => (s_X6_hearLetters_b2 g fO to gR n f gD13 S14 C15 (nI (j + 1)))) := fun f => by
      rw [hc0 f]
      unfold s_X3_isSent
      rw [if_pos s0, zb1_s, if_pos rfl]
    rw [if_pos s1] at hr
    generalize nrm S j = S1 at *
    generalize va_up C j none = C1 at *
    obtain ⟨f1, f2, f3⟩ := lsn_f S1 fO j n
    generalize lsn S1 fO j n = r at *
    have hM := (hB1.1 j hj).2
    have hk1 : ∀ k, r.1 = some k → k < n ∧ k ≠ j ∧ ¬ S1 k 5 0 = 0 := fun k hk => by
      obtain ⟨q1, q2, q3⟩ := f3 k hk
      exact ⟨q1, fun e => by rw [e] at q3; exact q3 s1, q3⟩
    by_cases k0 : r.2 = 0
    · have hr1 : r.1 = none := by
        cases e : r.1 with
        | none => rfl
        | some k => have := (f3 k e).2.1; omega
      rw [if_pos k0] at hr
      rw [if_pos (by omega), if_neg (by omega), hr1] at hl
      refine ⟨_, _, _, _, fun f => by rw [hc f, hl, zb3_s], hr, ?_⟩
      refine HS_cv hS1 hC1 (hs_mk hB1 hj gD (-1) hM rfl rfl (fun m hm => by rw [up_ap, if_neg hm]) ?_ ?_)
      · rw [up_ap, if_pos rfl, hdI_n]
      · intro k hk
        rw [up_ap, if_pos rfl] at hk
        cases hk
    · rw [if_neg k0] at hr
      by_cases k1 : r.2 ≤ 1
      · rw [if_pos k1] at hr
        rw [if_pos k1, if_pos (by omega)] at hl
        by_cases k2 : odI fO j r.1 ≤ drA (gD 0) 100
        · rw [if_pos k2] at hr hl
          refine ⟨_, _, _, _, fun f => by rw [hc f, hl, zb3_s], hr, ?_⟩
          refine HS_cv hS1 hC1 (hs_mk hB1 hj (drD gD) (hdI r.1) hM rfl rfl (fun m hm => by rw [up_ap, if_neg hm]) ?_ ?_)
          · rw [up_ap, if_pos rfl]
          · intro k hk
            rw [up_ap, if_pos rfl] at hk
            exact hk1 k hk
        · rw [if_neg k2] at hr hl
          refine ⟨_, _, _, _, fun f => by rw [hc f, hl, zb3_s], hr, ?_⟩
          refine HS_cv hS1 hC1 (hs_mk hB1 hj (drD gD) (-1) ?_ rfl rfl (fun m hm => rfl) ?_ ?_)
          · obtain ⟨m1, m2, m3, m4, m5, m6, m7⟩ := hM
            exact ⟨m1, m2, m3, m4, m5, m6, m7⟩
          · rw [hCj, hdI_n]
          · intro k hk
            rw [hCj] at hk
            cases hk
      · rw [if_neg k1] at hr hl
        refine ⟨_, _, _, _, fun f => by rw [hc f, hl, zb3_s], hr, ?_⟩
        refine HS_cv hS1 hC1 (hs_mk hB1 hj gD (-1) ?_ rfl rfl (fun m hm => rfl) ?_ ?_)
        · obtain ⟨m1, m2, m3, m4, m5, m6, m7⟩ := hM
          exact ⟨m1, m2, m3, m4, m5, m6, m7⟩
        · rw [hCj, hdI_n]
        · intro k hk
          rw [hCj] at hk
          cases hk
  · have s1 : ¬ nrm S j j 5 0 = 0 := by rw [hS1]; exact s0
    rw [if_neg s1] at hr
    refine ⟨gD, nrm S j, va_up C j none, _, fun f => ?_, hr, ?_⟩
    · rw [hc0 f]
      unfold s_X3_isSent
      rw [if_neg s0, zb1_s, if_neg one_ne]
    · have hz : nrm S j j 0 = S j 0 ∧ nrm S j j 2 = S j 2 ∧ nrm S j j 3 = S j 3 ∧ nrm S j j 4 = S j 4 := by
        unfold nrm
        rw [up_ap, if_pos rfl]
        exact ⟨rfl, rfl, rfl, rfl⟩
      rw [hz.1, hz.2.1, hz.2.2.1, hz.2.2.2]
      refine hs_mk hB hj gD (-1) (hB.1 j hj).2 rfl rfl hC1 ?_ ?_
      · rw [hCj, hdI_n]
      · intro k hk
        rw [hCj] at hk
        cases hk
theorem LL_31 {n : Nat} {v : Int32} {S : Nat → Nat → zF} {F : Nat → zF} (h : LL n v S F) : ∀ i, i < n → F 31 i = S i 5 0 := fun i hi => (h i hi).1.1
theorem hearL {gR g G fO to : zF} {n : Nat} {v : Int32} (C : Nat → Option Nat) (hG : HG gR n g G) (hO : ∀ i, i < 144 → fO i = -1 ∨ 0 ≤ fO i) (gD : zF) (S : Nat → Nat → zF) (x : Int32) (F : Nat → zF) (hB : BR n to fO v S x F) (hL : LL n v S F) : ∀ i, i ≤ n → ∃ gD' S' C' F', s_X6_hearLetters g fO to gR gD S C n = s_X6_hearLetters_b2 g fO to gR n (13 - i) gD' S' C' (nI i) ∧ (∀ (kx : zF → (Nat → zF) → Int32 → Int32 → Option (Int32 × zF × (Nat → zF))) (l1 l2 : Int32), s_X7_ticks_b54 kx 13 (dg G gD) F l1 l2 0 = s_X7_ticks_b54 kx (13 - i) (dg G gD') F' l1 l2 (nI i)) ∧ BR n to fO v S' x F' ∧ LL n v S' F' ∧ CF i n S' C' F'
  | 0, _ => by
    refine ⟨gD, S, C, F, ?_, ?_, hB, hL, fun m hm => by omega⟩
    · rw [nI_0, Nat.sub_zero]; rfl
    · intro kx l1 l2
      rw [nI_0, Nat.sub_zero]
  | i + 1, hi => by
    obtain ⟨gD1, S1, C1, F1, p1, p2, p3, p4, p5⟩ := hearL C hG hO gD S x F hB hL i (by omega)
    obtain ⟨hn, hR, h5, h25, hT, h7⟩ := hG
    have hin : i < n := by omega
    obtain ⟨gD', S', C', F', o1, o2, o3, o4, o5, o6, o7, o8⟩ := hear_step (gR := gR) hn h5 h25 gD1 C1 p3 hin (LL_31 p4) hO
    have e5 : dg G gD1 5 = nI n := h25
    refine ⟨gD', S', C', F', ?_, ?_, o3, ?_, ?_⟩
    · rw [p1, show 13 - i = (13 - (i + 1)) + 1 by omega, o1]
    · intro kx l1 l2
      rw [p2 kx l1 l2, show 13 - i = (13 - (i + 1)) + 1 by omega, s_X7_ticks_b54, e5, if_neg (nI_ge hin (by omega)), o2, zb2_s]
      simp -implicitDefEqProofs only [zl_e, nI_s]
    · intro m hm
      obtain ⟨q1, q2⟩ := p4 m hm
      rw [o4 m]
      exact ⟨LT_cg (fun k h1 h2 => o5 k m (Or.inl ⟨h1, h2⟩)) q1, q2⟩
    · intro m hm
      by_cases e : m = i
      · subst e
        exact ⟨o7, fun k hk => by rw [o4 k]; exact o8 k hk⟩
      · obtain ⟨q1, q2⟩ := p5 m (by omega)
        rw [o5 40 m (Or.inr ⟨rfl, e⟩), o6 m e]
        exact ⟨q1, fun k hk => by rw [o4 k]; exact q2 k hk⟩
theorem hear_all {gR g G fO to : zF} {n : Nat} {v : Int32} (C : Nat → Option Nat) (hG : HG gR n g G) (hO : ∀ i, i < 144 → fO i = -1 ∨ 0 ≤ fO i) (gD : zF) (S : Nat → Nat → zF) (x : Int32) (F : Nat → zF) (hB : BR n to fO v S x F) (hL : LL n v S F) : ∃ gD' S' C' F', s_X6_hearLetters g fO to gR gD S C n = some (gD', S', C') ∧ (∀ (kx : zF → (Nat → zF) → Int32 → Int32 → Option (Int32 × zF × (Nat → zF))) (l1 l2 : Int32), s_X7_ticks_b54 kx 13 (dg G gD) F l1 l2 0 = kx (dg G gD') F' l1 l2) ∧ BR n to fO v S' x F' ∧ LL n v S' F' ∧ CF n n S' C' F' := by
  obtain ⟨gD', S', C', F', p1, p2, p3, p4, p5⟩ := hearL C hG hO gD S x F hB hL n (Nat.le_refl n)
  obtain ⟨hn, hR, h5, h25, hT, h7⟩ := hG
  have e5 : dg G gD' 5 = nI n := h25
  refine ⟨gD', S', C', F', ?_, ?_, p3, p4, p5⟩
  · rw [p1, show 13 - n = (12 - n) + 1 by omega, s_X6_hearLetters_b2, h5, if_pos (nI_le (Nat.le_refl n) (by omega))]
  · intro kx l1 l2
    rw [p2 kx l1 l2, show 13 - n = (12 - n) + 1 by omega, s_X7_ticks_b54, e5, if_pos (nI_le (Nat.le_refl n) (by omega))]
