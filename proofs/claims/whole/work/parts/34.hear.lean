/-! hearing letters -/
def wi (x a b : Int32) : Int32 := if x < a then 0 else if b < x then 0 else 1
theorem wi6 (x a b : Int32) : s_X6_within x a b = some (wi x a b) := by
  unfold s_X6_within wi
  by_cases h : x < a
  · rw [if_pos h, if_pos h]
  · rw [if_neg h, if_neg h]
    by_cases h2 : b < x
    · rw [if_pos h2, if_pos h2]
    · rw [if_neg h2, if_neg h2]
theorem wi7 (x a b : Int32) : s_X7_isIn x a b = some (wi x a b) := wi6 x a b
theorem wi_in {x a b : Int32} (h1 : ¬ x < a) (h2 : ¬ b < x) : wi x a b = 1 := by unfold wi; rw [if_neg h1, if_neg h2]
theorem pair_e (g fO : zF) {j i : Nat} (hj : j < 12) (hi : i < 12) : s_X6_pairOf g fO (nI j) (nI i) = some (nI (12 * j + i)) := by
  unfold s_X6_pairOf
  have e1 : (12 : Int32) = nI 12 := rfl
  have e2 : (144 : Int32) - 1 = nI 143 := by decide
  rw [zl_e, e1, pk_mul, nI_add, wi6, e2, wi_in (nI_pos (by omega)) (nI_nlt (by omega) (by omega)), zb1_s, if_neg one_ne, Nat.mul_comm j 12]
theorem odds_e (g fO : zF) {j i : Nat} (hj : j < 12) (hi : i < 12) : s_X6_oddsBetween g fO (nI j) (nI i) = some (fO (12 * j + i)) := by
  unfold s_X6_oddsBetween
  have h1 : ¬ nI (12 * j + i) = -1 := fun e => nI_pos (n := 12 * j + i) (by omega) (by rw [e]; decide)
  rw [pair_e g fO hj hi, zb1_s, if_neg h1, if_neg (nI_in (by omega) (by omega)), nI_clamp (by omega)]
def lsn (S : Nat → Nat → zF) (fO : zF) (j : Nat) : Nat → Option Nat × Nat
  | 0 => (none, 0)
  | i + 1 => if S i 5 0 = 0 then lsn S fO j i else if fO (12 * j + i) = -1 then lsn S fO j i else (some i, (lsn S fO j i).2 + 1)
theorem lsn_f (S : Nat → Nat → zF) (fO : zF) (j : Nat) : ∀ i, (lsn S fO j i).2 ≤ i ∧ ((lsn S fO j i).1 = none → (lsn S fO j i).2 = 0) ∧ ∀ k, (lsn S fO j i).1 = some k → k < i ∧ 0 < (lsn S fO j i).2 ∧ ¬ S k 5 0 = 0
  | 0 => ⟨Nat.le_refl 0, fun _ => rfl, fun k h => by cases h⟩
  | i + 1 => by
    obtain ⟨h1, h2, h3⟩ := lsn_f S fO j i
    rw [lsn]
    by_cases c1 : S i 5 0 = 0
    · rw [if_pos c1]
      exact ⟨by omega, h2, fun k h => ⟨by have := (h3 k h).1; omega, (h3 k h).2⟩⟩
    · rw [if_neg c1]
      by_cases c2 : fO (12 * j + i) = -1
      · rw [if_pos c2]
        exact ⟨by omega, h2, fun k h => ⟨by have := (h3 k h).1; omega, (h3 k h).2⟩⟩
      · rw [if_neg c2]
        refine ⟨by simp; omega, (fun h => by cases h), fun k h => ?_⟩
        cases h
        exact ⟨by omega, by simp, c1⟩
def odI (fO : zF) (j : Nat) (o : Option Nat) : Int32 := match o with | none => -1 | some k => fO (12 * j + k)
theorem cl_r {g fO to gR : zF} {n : Nat} (hn : n ≤ 12) (h5 : g 5 = nI n) (gD : zF) (S : Nat → Nat → zF) (C : Nat → Option Nat) {j : Nat} (hj : j < 12) (jh : Nat) : ∀ i, i ≤ n → s_X6_listen g fO to gR gD S C n jh (nI j) = s_X6_listen_b11 g fO to gR n jh (13 - i) gD S C (nI j) (lsn S fO j i).1 (odI fO j (lsn S fO j i).1) (nI (lsn S fO j i).2) (nI i)
  | 0, _ => by
    unfold s_X6_listen
    rw [nI_0, Nat.sub_zero]
    have e : lsn S fO j 0 = (none, 0) := rfl
    rw [e]
    dsimp only [odI]
    rw [nI_0]
  | i + 1, hi => by
    have hin : i < n := by omega
    rw [cl_r hn h5 gD S C hj jh i (by omega), show 13 - i = (13 - (i + 1)) + 1 by omega, s_X6_listen_b11, h5, if_neg (nI_ge hin (by omega)), at_s hn h5 hin, odds_e g fO hj (by omega), zb1_s]
    unfold s_X3_isSent
    rw [lsn]
    by_cases c1 : S i 5 0 = 0
    · rw [if_pos c1, if_pos c1, zb1_s, if_pos rfl, zl_e, nI_s]
    · rw [if_neg c1, if_neg c1, zb1_s, if_neg one_ne]
      by_cases c2 : fO (12 * j + i) = -1
      · rw [if_pos c2, if_pos c2, zl_e, nI_s]
      · rw [if_neg c2, if_neg c2, zl_e, zl_e, nI_s, nI_s]
        rfl
theorem rl_r {fO : zF} {n : Nat} (hn : n ≤ 12) {G : zF} (h5 : G 5 = nI n) (S : Nat → Nat → zF) (F : Nat → zF) {j : Nat} (hj : j < 12) (h31 : ∀ i, i < n → F 31 i = S i 5 0) (h10 : ∀ i, i < 144 → F 10 i = fO i) (hO : ∀ i, i < 144 → fO i = -1 ∨ 0 ≤ fO i) : ∀ i, i ≤ n → s_X7_listen G F (nI j) = s_X7_listen_b7 (13 - i) G F (nI j) (hdI (lsn S fO j i).1) (nI (lsn S fO j i).2) (nI i)
  | 0, _ => by
    unfold s_X7_listen
    have e : lsn S fO j 0 = (none, 0) := rfl
    rw [nI_0, Nat.sub_zero, e]
    dsimp only
    rw [nI_0, hdI_n]
  | i + 1, hi => by
    have hin : i < n := by omega
    have hi12 : i < 12 := by omega
    rw [rl_r hn h5 S F hj h31 h10 hO i (by omega), show 13 - i = (13 - (i + 1)) + 1 by omega, s_X7_listen_b7, h5, if_neg (nI_ge hin (by omega))]
    simp -implicitDefEqProofs only [nj_n hi12, nj_cl hi12, nj_l hi12, ix_cl hj hi12, ix_n hj hi12, ix_l hj hi12, or_self, if_false, zl_e, nI_s, h31 i hin, h10 (12 * j + i) (by omega)]
    rw [lsn]
    by_cases c1 : S i 5 0 = 0
    · rw [if_pos c1, if_pos c1]
    · rw [if_neg c1, if_neg c1]
      by_cases c2 : fO (12 * j + i) = -1
      · rw [if_neg (by rw [c2]; decide), if_pos c2]
      · rw [if_pos ((hO _ (by omega)).resolve_left c2), if_neg c2]
        rfl
theorem b100 : (1 : Int32) ≤ 100 ∧ ¬ (100 : Int32) = 0 := by decide
def nrm (S : Nat → Nat → zF) (j : Nat) : Nat → Nat → zF := va_up S j (zs6 (S j 0) (S j 1) (S j 2) (S j 3) (S j 4) (S j 5))
/-- one machine listens -/
def CF (i n : Nat) (S : Nat → Nat → zF) (C : Nat → Option Nat) (F : Nat → zF) : Prop := ∀ m, m < i → F 40 m = hdI (C m) ∧ ∀ k, C m = some k → k < n ∧ k ≠ m ∧ ¬ S k 5 0 = 0
def HS (n : Nat) (to fO : zF) (v x : Int32) (S : Nat → Nat → zF) (C : Nat → Option Nat) (F : Nat → zF) (j : Nat) (gD' : zF) (S' : Nat → Nat → zF) (C' : Nat → Option Nat) (F' : Nat → zF) : Prop := BR n to fO v S' x F' ∧ (∀ m, S' m 5 = S m 5) ∧ (∀ k m, (31 ≤ k ∧ k ≤ 39) ∨ (k = 40 ∧ m ≠ j) → F' k m = F k m) ∧ (∀ m, m ≠ j → C' m = C m) ∧ F' 40 j = hdI (C' j) ∧ ∀ k, C' j = some k → k < n ∧ k ≠ j ∧ ¬ S k 5 0 = 0
theorem nI_c1 {c : Nat} (hc : c ≤ 12) : ((nI c ≤ 1) ↔ c ≤ 1) ∧ ((nI c = 1) ↔ c = 1) ∧ ((nI c = 0) ↔ c = 0) := by
  have e1 : (1 : Int32) = nI 1 := rfl
  have e0 : (0 : Int32) = nI 0 := rfl
  rw [e1, e0]
  exact ⟨nI_leI (by omega) (by omega), nI_eq (by omega) (by omega), nI_eq (by omega) (by omega)⟩
theorem hs_mk {n : Nat} {to fO : zF} {v x : Int32} {S : Nat → Nat → zF} {C : Nat → Option Nat} {F : Nat → zF} (hB : BR n to fO v S x F) {j : Nat} (hj : j < n) (gD' : zF) {gM : zF} (w : Int32) {C' : Nat → Option Nat} (hM : MI gM (S j 1) (S j 2) (S j 4)) (hc : gM 13 + gM 14 = S j 0 13 + S j 0 14) (h6 : gM 6 = S j 0 6) (hC : ∀ m, m ≠ j → C' m = C m) (h40 : w = hdI (C' j)) (hk : ∀ k, C' j = some k → k < n ∧ k ≠ j ∧ ¬ S k 5 0 = 0) : HS n to fO v x S C F j gD' (va_up S j (zs6 gM (S j 1) (S j 2) (S j 3) (S j 4) (S j 5))) C' (put (zu F 40 j w) j gM (S j 2) (S j 3) (S j 4)) := by
  refine ⟨?_, ?_, ?_, hC, ?_, hk⟩
  · have h := BR_up hB hj (L := zu F 40 j w) (fun k y hk => by rw [zu_ap, if_neg (by omega)]) (gL := S j 5) (mx := S j 3) hM (c := 0) (by rw [hc, Int32.add_zero]) (Or.inl h6)
    rw [Int32.add_zero] at h
    exact h
  · intro m
    by_cases e : m = j
    · subst e; rw [up_ap, if_pos rfl, zs_5]
    · rw [up_ap, if_neg e]
  · intro k m h
    rw [put_hi _ (by omega), zu_ap, if_neg (by omega)]
  · rw [put_hi _ (by omega), zu_ap, if_pos ⟨rfl, rfl⟩, h40]
theorem hs_ref {n : Nat} (hn : n ≤ 12) {to fO G gD : zF} {v x : Int32} {S : Nat → Nat → zF} {F : Nat → zF} (hB : BR n to fO v S x F) (h5 : G 5 = nI n) {j : Nat} (hj : j < n) (h31 : ∀ i, i < n → F 31 i = S i 5 0) (hO : ∀ i, i < 144 → fO i = -1 ∨ 0 ≤ fO i) : s_X7_listen (dg G gD) F (nI j) = (if S j 5 0 = 0 then (if (lsn S fO j n).2 = 0 then some (dg G gD, put (zu F 40 j (-1)) j (S j 0) (S j 2) (S j 3) (S j 4)) else if (lsn S fO j n).2 ≤ 1 then (if odI fO j (lsn S fO j n).1 ≤ drA (gD 0) 100 then some (dg G (drD gD), put (zu F 40 j (hdI (lsn S fO j n).1)) j (S j 0) (S j 2) (S j 3) (S j 4)) else some (dg G (drD gD), put (zu F 40 j (-1)) j (va_up (S j 0) 16 (S j 0 16 + 1)) (S j 2) (S j 3) (S j 4))) else some (dg G gD, put (zu F 40 j (-1)) j (va_up (S j 0) 15 (S j 0 15 + 1)) (S j 2) (S j 3) (S j 4))) else some (dg G gD, put (zu F 40 j (-1)) j (S j 0) (S j 2) (S j 3) (S j 4))) := by
  have hj12 : j < 12 := by omega
  have h25 : dg G gD 5 = nI n := h5
  obtain ⟨f1, f2, f3⟩ := lsn_f S fO j n
  obtain ⟨c1, c2, c3⟩ := nI_c1 (c := (lsn S fO j n).2) (by omega)
  have hF := (hB.1 j hj).1
  have e31 := h31 j hj
  have e40 : ∀ a b, zu (zu F 40 j a) 40 j b = zu F 40 j b := fun a b => by
    funext k y
    simp only [zu_ap]
    by_cases h : k = 40 ∧ y = j
    · simp [h]
    · simp [h]
  rw [rl_r hn h25 S F hj12 h31 hB.2.2.2.1 hO n (Nat.le_refl n), show 13 - n = (12 - n) + 1 by omega, s_X7_listen_b7, h25, if_pos (nI_le (Nat.le_refl n) (by omega))]
  have hj := hj12
  generalize hl : lsn S fO j n = r at *
  have r1 : ∀ k i, zu F 40 j (-1) k i = if k = 40 ∧ i = j then -1 else F k i := fun k i => zu_ap _ _ _ _ _ _
  have q31 : zu F 40 j (-1) 31 j = S j 5 0 := by rw [r1, if_neg (by omega), e31]
  have hP : zu F 40 j (-1) = put (zu F 40 j (-1)) j (S j 0) (S j 2) (S j 3) (S j 4) := by rw [← put_w40, hF]
  simp -implicitDefEqProofs only [nj_n hj, nj_cl hj, nj_l hj, or_self, if_false, zl_e, q31, c1, c3]
  by_cases s0 : S j 5 0 = 0
  · rw [if_pos s0, if_pos s0]
    by_cases k0 : r.2 = 0
    · rw [if_pos k0, if_pos k0, ← hP]
    · rw [if_neg k0, if_neg k0]
      by_cases k1 : r.2 ≤ 1
      · rw [if_pos k1, if_pos k1, draw7_d _ _ _ b100.2, zb2_s]
        cases ho : r.1 with
        | none => exact absurd (f2 ho) k0
        | some k =>
          obtain ⟨q1, q2, q3⟩ := f3 k ho
          have hk : k < 12 := by omega
          have q10 : zu F 40 j (-1) 10 (12 * j + k) = fO (12 * j + k) := by rw [r1, if_neg (by omega)]; exact hB.2.2.2.1 _ (by omega)
          simp -implicitDefEqProofs only [hdI_s, ix_cl hj hk, ix_n hj hk, ix_l hj hk, or_self, if_false, q10, odI]
          by_cases k2 : fO (12 * j + k) ≤ drA (gD 0) 100
          · rw [if_pos k2, if_pos k2, e40, ← put_w40, hF]
          · rw [if_neg k2, if_neg k2]
            conv => lhs; rw [hP]
            rw [put_r25, put_w25]
      · rw [if_neg k1, if_neg k1]
        conv => lhs; rw [hP]
        rw [put_r24, put_w24]
  · rw [if_neg s0, if_neg s0, ← hP]
