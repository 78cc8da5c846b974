/-! a tick: letters at work, the end, the look -/
theorem LL_put {n : Nat} {v : Int32} {S S' : Nat → Nat → zF} {F : Nat → zF} (hL : LL n v S F) (hS : ∀ m, S' m 5 = S m 5) (j : Nat) (gM mk mx gI : zF) : LL n v S' (put F j gM mk mx gI) := by
  intro m hm
  obtain ⟨q1, q2⟩ := hL m hm
  rw [hS m]
  exact ⟨LT_cg (fun k h1 h2 => put_hi F h1 _ _ _ _ _ _) q1, q2⟩
theorem up_5 (S : Nat → Nat → zF) (j : Nat) (a b c d e : zF) (m : Nat) : va_up S j (zs6 a b c d e (S j 5)) m 5 = S m 5 := by
  by_cases h : m = j
  · subst h; rw [up_ap, if_pos rfl, zs_5]
  · rw [up_ap, if_neg h]
theorem workL {gR g G fO to : zF} {n : Nat} {v : Int32} (C : Nat → Option Nat) (hG : HG gR n g G) (gD : zF) (S : Nat → Nat → zF) (x : Int32) (F : Nat → zF) (hB : BR n to fO v S x F) (hL : LL n v S F) (hC : CF n n S C F) : ∀ i, i ≤ n → ∃ gD' S' F', s_X6_letLettersWork g fO to gR gD S C n = s_X6_letLettersWork_b2 g fO to gR C n (13 - i) gD' S' (nI i) ∧ (∀ (kx : zF → (Nat → zF) → Int32 → Int32 → Option (Int32 × zF × (Nat → zF))) (l1 l2 : Int32), s_X7_ticks_b75 kx 13 (dg G gD) F l1 l2 0 = s_X7_ticks_b75 kx (13 - i) (dg G gD') F' l1 l2 (nI i)) ∧ BR n to fO v S' x F' ∧ LL n v S' F' ∧ CF n n S' C F'
  | 0, _ => by
    refine ⟨gD, S, F, ?_, ?_, hB, hL, hC⟩
    · rw [nI_0, Nat.sub_zero]; rfl
    · intro kx l1 l2
      rw [nI_0, Nat.sub_zero]
  | i + 1, hi => by
    obtain ⟨gD1, S1, F1, p1, p2, p3, p4, p5⟩ := workL C hG gD S x F hB hL hC i (by omega)
    obtain ⟨hn, hR, h5, h25, hT, h7⟩ := hG
    have hin : i < n := by omega
    have e5 : dg G gD1 5 = nI n := h25
    have hF := (p3.1 i hin).1
    have hM := (p3.1 i hin).2
    obtain ⟨c1, c2⟩ := p5 i hin
    cases hCi : C i with
    | none =>
      rw [hCi, hdI_n] at c1
      have hw := work_no G gD1 F1 (j := i) (by omega) (S1 i 0) (S1 i 2) (S1 i 3) (S1 i 4) c1
      rw [hF] at hw
      refine ⟨gD1, S1, F1, ?_, ?_, p3, p4, p5⟩
      · rw [p1, show 13 - i = (13 - (i + 1)) + 1 by omega, s_X6_letLettersWork_b2, h5, if_neg (nI_ge hin (by omega)), at_s hn h5 hin, hCi]
        show (zl (nI i + 1) fun (x7 : Int32) => (s_X6_letLettersWork_b2 g fO to gR C n (13 - (i + 1)) gD1 S1 (x7))) = _
        rw [zl_e, nI_s]
      · intro kx l1 l2
        rw [p2 kx l1 l2, show 13 - i = (13 - (i + 1)) + 1 by omega, s_X7_ticks_b75, e5, if_neg (nI_ge hin (by omega)), hw, zb2_s]
        simp -implicitDefEqProofs only [zl_e, nI_s]
    | some k =>
      rw [hCi, hdI_s] at c1
      obtain ⟨k1, k2, k3⟩ := c2 k hCi
      obtain ⟨l1', l2'⟩ := p4 k k1
      obtain ⟨gM', gB', mk', mx', gI', gD', o1, o2, o3, o4⟩ := take_sim hR hT gD1 F1 (j := i) (i := k) (by omega) (by omega) (S1 i 3) (S1 k 5) hM l1' k3 c1
      rw [hF] at o2
      rw [← h7] at o1
      refine ⟨gD', va_up S1 i (zs6 gM' gB' mk' mx' gI' (S1 i 5)), put F1 i gM' mk' mx' gI', ?_, ?_, ?_, ?_, ?_⟩
      · rw [p1, show 13 - i = (13 - (i + 1)) + 1 by omega, s_X6_letLettersWork_b2, h5, if_neg (nI_ge hin (by omega)), at_s hn h5 hin, hCi]
        show (if k < n ∧ ¬ k = i then _ else _) = _
        rw [if_pos ⟨k1, k2⟩, o1, zb6_s]
        simp -implicitDefEqProofs only [zl_e, nI_s]
      · intro kx l1 l2
        rw [p2 kx l1 l2, show 13 - i = (13 - (i + 1)) + 1 by omega, s_X7_ticks_b75, e5, if_neg (nI_ge hin (by omega)), o2, zb2_s]
        simp -implicitDefEqProofs only [zl_e, nI_s]
      · have h := BR_up p3 hin (L := F1) (fun _ _ _ => rfl) (gL := S1 i 5) (mx := mx') o3 (c := 0) (by rw [o4.2.1, o4.2.2, Int32.add_zero]) (by
          rcases o4.1 with q | ⟨q1, q2⟩
          · exact Or.inl q
          · refine Or.inr ⟨by rw [q2]; exact q1, ?_⟩
            rw [q2]
            exact l2'.resolve_left k3)
        rw [Int32.add_zero] at h
        exact h
      · exact LL_put p4 (up_5 S1 i _ _ _ _ _) i _ _ _ _
      · intro m hm
        obtain ⟨q1, q2⟩ := p5 m hm
        rw [put_hi _ (by omega)]
        exact ⟨q1, fun k' hk => by rw [up_5]; exact q2 k' hk⟩
theorem work_all {gR g G fO to : zF} {n : Nat} {v : Int32} (C : Nat → Option Nat) (hG : HG gR n g G) (gD : zF) (S : Nat → Nat → zF) (x : Int32) (F : Nat → zF) (hB : BR n to fO v S x F) (hL : LL n v S F) (hC : CF n n S C F) : ∃ gD' S' F', s_X6_letLettersWork g fO to gR gD S C n = some (gD', S') ∧ (∀ (kx : zF → (Nat → zF) → Int32 → Int32 → Option (Int32 × zF × (Nat → zF))) (l1 l2 : Int32), s_X7_ticks_b75 kx 13 (dg G gD) F l1 l2 0 = kx (dg G gD') F' l1 l2) ∧ BR n to fO v S' x F' := by
  obtain ⟨gD', S', F', p1, p2, p3, p4, p5⟩ := workL C hG gD S x F hB hL hC n (Nat.le_refl n)
  obtain ⟨hn, hR, h5, h25, hT, h7⟩ := hG
  have e5 : dg G gD' 5 = nI n := h25
  refine ⟨gD', S', F', ?_, ?_, p3⟩
  · rw [p1, show 13 - n = (12 - n) + 1 by omega, s_X6_letLettersWork_b2, h5, if_pos (nI_le (Nat.le_refl n) (by omega))]
  · intro kx l1 l2
    rw [p2 kx l1 l2, show 13 - n = (12 - n) + 1 by omega, s_X7_ticks_b75, e5, if_pos (nI_le (Nat.le_refl n) (by omega))]
theorem endL {gR g G fO to : zF} {n : Nat} {v : Int32} (C : Nat → Option Nat) (hG : HG gR n g G) (gD : zF) (S : Nat → Nat → zF) (x : Int32) (F : Nat → zF) (hB : BR n to fO v S x F) : ∀ i, i ≤ n → ∃ gD' S' F', s_X6_endTick g fO to gR gD S C n = s_X6_endTick_b2 g fO to gR C n (13 - i) gD' S' (nI i) ∧ (∀ (kx : zF → (Nat → zF) → Int32 → Int32 → Option (Int32 × zF × (Nat → zF))) (l1 l2 : Int32), s_X7_ticks_b96 kx 13 (dg G gD) F l1 l2 0 = s_X7_ticks_b96 kx (13 - i) (dg G gD') F' l1 l2 (nI i)) ∧ BR n to fO v S' x F'
  | 0, _ => by
    refine ⟨gD, S, F, ?_, ?_, hB⟩
    · rw [nI_0, Nat.sub_zero]; rfl
    · intro kx l1 l2
      rw [nI_0, Nat.sub_zero]
  | i + 1, hi => by
    obtain ⟨gD1, S1, F1, p1, p2, p3⟩ := endL C hG gD S x F hB i (by omega)
    obtain ⟨hn, hR, h5, h25, hT, h7⟩ := hG
    have hin : i < n := by omega
    have e5 : dg G gD1 5 = nI n := h25
    have hF := (p3.1 i hin).1
    have hM := (p3.1 i hin).2
    obtain ⟨gM', gI', gD', o1, o2, o3, o4⟩ := end_sim hR gD1 F1 (j := i) (by omega) (S1 i 3) hM
    rw [hF] at o2
    rw [← h7] at o1
    refine ⟨gD', va_up S1 i (zs6 gM' (S1 i 1) (S1 i 2) (S1 i 3) gI' (S1 i 5)), put F1 i gM' (S1 i 2) (S1 i 3) gI', ?_, ?_, ?_⟩
    · rw [p1, show 13 - i = (13 - (i + 1)) + 1 by omega, s_X6_endTick_b2, h5, if_neg (nI_ge hin (by omega)), at_s hn h5 hin, o1, zb3_s]
      simp -implicitDefEqProofs only [zl_e, nI_s]
    · intro kx l1 l2
      rw [p2 kx l1 l2, show 13 - i = (13 - (i + 1)) + 1 by omega, s_X7_ticks_b96, e5, if_neg (nI_ge hin (by omega)), o2, zb2_s]
      simp -implicitDefEqProofs only [zl_e, nI_s]
    · have h := BR_up p3 hin (L := F1) (fun _ _ _ => rfl) (gL := S1 i 5) (mx := S1 i 3) o3 (c := 0) (by rw [o4.2.1, o4.2.2.1, Int32.add_zero]) (Or.inl o4.1)
      rw [Int32.add_zero] at h
      exact h
theorem end_all {gR g G fO to : zF} {n : Nat} {v : Int32} (C : Nat → Option Nat) (hG : HG gR n g G) (gD : zF) (S : Nat → Nat → zF) (x : Int32) (F : Nat → zF) (hB : BR n to fO v S x F) : ∃ gD' S' F', s_X6_endTick g fO to gR gD S C n = some (gD', S') ∧ (∀ (kx : zF → (Nat → zF) → Int32 → Int32 → Option (Int32 × zF × (Nat → zF))) (l1 l2 : Int32), s_X7_ticks_b96 kx 13 (dg G gD) F l1 l2 0 = kx (dg G gD') F' l1 l2) ∧ BR n to fO v S' x F' := by
  obtain ⟨gD', S', F', p1, p2, p3⟩ := endL C hG gD S x F hB n (Nat.le_refl n)
  obtain ⟨hn, hR, h5, h25, hT, h7⟩ := hG
  have e5 : dg G gD' 5 = nI n := h25
  refine ⟨gD', S', F', ?_, ?_, p3⟩
  · rw [p1, show 13 - n = (12 - n) + 1 by omega, s_X6_endTick_b2, h5, if_pos (nI_le (Nat.le_refl n) (by omega))]
  · intro kx l1 l2
    rw [p2 kx l1 l2, show 13 - n = (12 - n) + 1 by omega, s_X7_ticks_b96, e5, if_pos (nI_le (Nat.le_refl n) (by omega))]
theorem fld11 {n : Nat} {to fO : zF} {v x : Int32} {S : Nat → Nat → zF} {F : Nat → zF} (hB : BR n to fO v S x F) {j : Nat} (hj : j < n) : F 11 j = S j 0 6 := by
  have h := congrFun (congrFun (hB.1 j hj).1 11) j
  rw [put_r11] at h
  exact h.symm
theorem fld16 {n : Nat} {to fO : zF} {v x : Int32} {S : Nat → Nat → zF} {F : Nat → zF} (hB : BR n to fO v S x F) {j : Nat} (hj : j < n) : F 16 j = S j 0 9 := by
  have h := congrFun (congrFun (hB.1 j hj).1 16) j
  rw [put_r16] at h
  exact h.symm
theorem bd_0 {N : Nat} {x : Int32} (hN : N < 2 ^ 31) (h : bd N x) : 0 ≤ x := by
  obtain ⟨a, a1, rfl⟩ := h
  exact nI_pos' (by omega)
theorem gk_r {fO to : zF} {n : Nat} {v x : Int32} {S : Nat → Nat → zF} {F : Nat → zF} (hn : n ≤ 12) {G : zF} (h5 : G 5 = nI n) (hB : BR n to fO v S x F) : ∀ i, i ≤ n → ∃ w, s_X7_greatestKept G F = s_X7_greatestKept_b4 G F (13 - i) w (nI i) ∧ w ≤ v ∧ 0 ≤ w ∧ ∀ j, j < i → S j 0 6 ≤ w
  | 0, _ => by
    refine ⟨0, ?_, ?_, by decide, fun j hj => by omega⟩
    · rw [nI_0, Nat.sub_zero]; rfl
    · exact bd_0 (by decide) hB.2.2.2.2.2.2.2
  | i + 1, hi => by
    obtain ⟨w, w1, w2, w3, w4⟩ := gk_r hn h5 hB i (by omega)
    have hin : i < n := by omega
    have hi12 : i < 12 := by omega
    by_cases c : S i 0 6 ≤ w
    · refine ⟨w, ?_, w2, w3, fun j hj => ?_⟩
      · rw [w1, show 13 - i = (13 - (i + 1)) + 1 by omega, s_X7_greatestKept_b4, h5, if_neg (nI_ge hin (by omega))]
        simp -implicitDefEqProofs only [nj_n hi12, nj_cl hi12, nj_l hi12, or_self, if_false, fld11 hB hin, c, if_true, zl_e, nI_s]
      · by_cases e : j = i
        · rw [e]; exact c
        · exact w4 j (by omega)
    · refine ⟨S i 0 6, ?_, hB.2.2.2.2.2.1 i hin, bd_0 (by decide) (hB.1 i hin).2.2.2.1, fun j hj => ?_⟩
      · rw [w1, show 13 - i = (13 - (i + 1)) + 1 by omega, s_X7_greatestKept_b4, h5, if_neg (nI_ge hin (by omega))]
        simp -implicitDefEqProofs only [nj_n hi12, nj_cl hi12, nj_l hi12, or_self, if_false, fld11 hB hin, c, zl_e, nI_s]
      · by_cases e : j = i
        · rw [e]; exact Int32.le_refl _
        · exact Int32.le_trans (w4 j (by omega)) (Int32.le_of_lt (Int32.not_le.mp c))
theorem gk_e {fO to : zF} {n : Nat} {v x : Int32} {S : Nat → Nat → zF} {F : Nat → zF} (hn : n ≤ 12) {G : zF} (h5 : G 5 = nI n) (hB : BR n to fO v S x F) : s_X7_greatestKept G F = some v := by
  obtain ⟨w, w1, w2, w3, w4⟩ := gk_r hn h5 hB n (Nat.le_refl n)
  have e : w = v := by
    refine Int32.le_antisymm w2 ?_
    rcases hB.2.2.2.2.2.2.1 with h | ⟨j, h1, h2⟩
    · rw [h]; exact w3
    · rw [← h2]; exact w4 j h1
  rw [w1, show 13 - n = (12 - n) + 1 by omega, s_X7_greatestKept_b4, h5, if_pos (nI_le (Nat.le_refl n) (by omega)), e]
def whB (S : Nat → Nat → zF) (v : Int32) (j : Nat) : Bool := decide (S j 0 6 = v ∧ ¬ S j 0 6 = 0 ∧ S j 1 2 = S j 0 7)
def alN (S : Nat → Nat → zF) (v : Int32) : Nat → Bool
  | 0 => true
  | i + 1 => alN S v i && whB S v i
theorem al_mono {S : Nat → Nat → zF} {v : Int32} {i : Nat} (h : alN S v i = false) : ∀ n, i ≤ n → alN S v n = false
  | 0, hn => by
    have e : i = 0 := by omega
    subst e; exact h
  | n + 1, hn => by
    by_cases e : i = n + 1
    · subst e; exact h
    · rw [alN, al_mono h n (by omega)]; rfl
theorem isWO_e (S : Nat → Nat → zF) (v : Int32) (j : Nat) : s_X4_isWholeOf (S j 0) (S j 1) v = some (if whB S v j = true then 1 else 0) := by
  unfold s_X4_isWholeOf whB
  rw [isW_v]
  by_cases c1 : S j 0 6 = v
  · rw [if_pos c1]
    by_cases c2 : S j 0 6 = 0
    · rw [if_pos c2, zb1_s, if_pos rfl]
      simp [c2]
    · rw [if_neg c2]
      by_cases c3 : S j 1 2 = S j 0 7
      · rw [if_pos c3, zb1_s, if_neg one_ne, if_pos (decide_eq_true ⟨c1, c2, c3⟩)]
      · rw [if_neg c3, zb1_s, if_pos rfl, if_neg (fun h => c3 (of_decide_eq_true h).2.2)]
  · rw [if_neg c1, if_neg (fun h => c1 (of_decide_eq_true h).1)]
theorem na_r {g fO to gR : zF} {n : Nat} (hn : n ≤ 12) (h5 : g 5 = nI n) (gD : zF) (S : Nat → Nat → zF) (C : Nat → Option Nat) : ∀ c i, i + c = n → alN S (g 8) i = true → ∀ f, c < f → s_X6_noteAllWhole_b18 fO to gR gD S C n f g (nI i) = some (if alN S (g 8) n = true then va_up g 9 (g 7) else g)
  | 0, i, hi, ha, 0, hf => by omega
  | 0, i, hi, ha, f + 1, hf => by
    have e : i = n := by omega
    subst e
    rw [s_X6_noteAllWhole_b18, h5, if_pos (nI_le (Nat.le_refl i) (by omega)), zl_e, if_pos ha]
  | c + 1, i, hi, ha, 0, hf => by omega
  | c + 1, i, hi, ha, f + 1, hf => by
    have hin : i < n := by omega
    rw [s_X6_noteAllWhole_b18, h5, if_neg (nI_ge hin (by omega)), at_s hn h5 hin, isWO_e, zb1_s]
    by_cases w : whB S (g 8) i = true
    · rw [if_pos w, if_neg one_ne, zl_e, nI_s]
      exact na_r hn h5 gD S C c (i + 1) (by omega) (by rw [alN, ha, w]; rfl) f (by omega)
    · have w' : whB S (g 8) i = false := by simpa using w
      rw [if_neg w, if_pos rfl, al_mono (i := i + 1) (by rw [alN, ha, w']; rfl) n (by omega)]
      rfl
theorem lk_r {fO to : zF} {n : Nat} {v x : Int32} {S : Nat → Nat → zF} {F : Nat → zF} (hn : n ≤ 12) {G : zF} (h5 : G 5 = nI n) (hB : BR n to fO v S x F) (a : Bool) : ∀ i, i ≤ n → s_X7_look_b35 F 13 G v (if a = true then 1 else 0) 0 = s_X7_look_b35 F (13 - i) G v (if (a && alN S v i) = true then 1 else 0) (nI i)
  | 0, _ => by
    rw [nI_0, Nat.sub_zero]
    cases a <;> rfl
  | i + 1, hi => by
    have hin : i < n := by omega
    have hi12 : i < 12 := by omega
    have hw : s_X7_isWhole G F (nI i) = s_X4_isWhole (S i 0) (S i 1) := by
      have h := isW_sim G F hi12 (S i 3) (hB.1 i hin).2
      rw [(hB.1 i hin).1] at h
      exact h
    have hO := isWO_e S v i
    unfold s_X4_isWholeOf at hO
    rw [lk_r hn h5 hB a i (by omega), show 13 - i = (13 - (i + 1)) + 1 by omega, s_X7_look_b35, h5, if_neg (nI_ge hin (by omega)), alN]
    simp -implicitDefEqProofs only [nj_n hi12, nj_cl hi12, nj_l hi12, or_self, if_false, fld11 hB hin, zl_e, nI_s, hw]
    by_cases q : (a && alN S v i) = true
    · rw [if_pos q, if_neg one_ne]
      have q2 : (a && (alN S v i && whB S v i)) = whB S v i := by
        rw [← Bool.and_assoc, q]; rfl
      rw [q2]
      by_cases c1 : S i 0 6 = v
      · rw [if_pos c1] at hO ⊢
        rw [isW_v, zb1_s] at hO
        rw [isW_v, zb1_s]
        by_cases c2 : (if S i 0 6 = 0 then (0 : Int32) else if S i 1 2 = S i 0 7 then 1 else 0) = 0
        · rw [if_pos c2] at hO ⊢
          have e : (if whB S v i = true then (1 : Int32) else 0) = 0 := (Option.some.inj hO).symm
          rw [e]
        · rw [if_neg c2] at hO ⊢
          have e : (if whB S v i = true then (1 : Int32) else 0) = 1 := (Option.some.inj hO).symm
          rw [e]
      · rw [if_neg c1] at hO ⊢
        have e : (if whB S v i = true then (1 : Int32) else 0) = 0 := (Option.some.inj hO).symm
        rw [e]
    · have q' : (a && alN S v i) = false := by simpa using q
      rw [if_neg q, if_pos rfl, ← Bool.and_assoc, q']
      rfl
