/-! the field and the reference: the relation -/
def tot (S : Nat → Nat → zF) : Nat → Int32
  | 0 => 0
  | n + 1 => tot S n + (S n 0 13 + S n 0 14)
theorem tot_cg {S S' : Nat → Nat → zF} : ∀ n, (∀ i, i < n → S' i 0 13 + S' i 0 14 = S i 0 13 + S i 0 14) → tot S' n = tot S n
  | 0, _ => rfl
  | n + 1, h => by rw [tot, tot, tot_cg n (fun i hi => h i (by omega)), h n (by omega)]
theorem tot_up {S S' : Nat → Nat → zF} {j : Nat} {c : Int32} (hc : S' j 0 13 + S' j 0 14 = S j 0 13 + S j 0 14 + c) (ho : ∀ i, i ≠ j → S' i 0 13 + S' i 0 14 = S i 0 13 + S i 0 14) : ∀ n, j < n → tot S' n = tot S n + c
  | 0, h => by omega
  | n + 1, h => by
    rw [tot, tot]
    by_cases e : j = n
    · subst e
      rw [tot_cg j (fun i hi => ho i (by omega)), hc, ← Int32.add_assoc]
    · rw [tot_up hc ho n (by omega), ho n (by omega), Int32.add_assoc, Int32.add_assoc, Int32.add_comm c]
def GV (n : Nat) (S : Nat → Nat → zF) (v : Int32) : Prop := (∀ j, j < n → S j 0 6 ≤ v) ∧ (v = 0 ∨ ∃ j, j < n ∧ S j 0 6 = v) ∧ bd 9999 v
theorem GV_up {n : Nat} {S S' : Nat → Nat → zF} {v : Int32} (h : GV n S v) {j : Nat} (hs : S' j 0 6 = S j 0 6 ∨ (S j 0 6 < S' j 0 6 ∧ S' j 0 6 ≤ v)) (ho : ∀ i, i ≠ j → S' i 0 6 = S i 0 6) : GV n S' v := by
  obtain ⟨h1, h2, h3⟩ := h
  refine ⟨fun i hi => ?_, ?_, h3⟩
  · by_cases e : i = j
    · subst e
      rcases hs with e2 | e2
      · rw [e2]; exact h1 i hi
      · exact e2.2
    · rw [ho i e]; exact h1 i hi
  · rcases h2 with e | ⟨i, hi, e⟩
    · exact Or.inl e
    · refine Or.inr ⟨i, hi, ?_⟩
      by_cases e2 : i = j
      · subst e2
        rcases hs with e3 | e3
        · rw [e3]; exact e
        · have := e3.1
          rw [e] at this
          exact absurd e3.2 (Int32.not_le.mpr this)
      · rw [ho i e2]; exact e
def BR (n : Nat) (to fO : zF) (v : Int32) (S : Nat → Nat → zF) (x : Int32) (F : Nat → zF) : Prop := (∀ j, j < n → put F j (S j 0) (S j 2) (S j 3) (S j 4) = F ∧ MI (S j 0) (S j 1) (S j 2) (S j 4)) ∧ (∀ j, n ≤ j → put F j z0 z0 z0 z0 = F) ∧ (∀ i, i < 12 → F 9 i = to i) ∧ (∀ i, i < 144 → F 10 i = fO i) ∧ x = tot S n ∧ GV n S v
theorem put_lo {F L : Nat → zF} {k x : Nat} (h : L k x = F k x) (j : Nat) (gM mk mx gI : zF) : put L j gM mk mx gI k x = put F j gM mk mx gI k x := by
  simp only [put, zc2, zcw, pm, h]
theorem put_hi (F : Nat → zF) {k : Nat} (h : 31 ≤ k) (x : Nat) (j : Nat) (gM mk mx gI : zF) : put F j gM mk mx gI k x = F k x := by
  have : ∀ c, c < 31 → k ≠ c := fun c hc => by omega
  simp [put, zc2, zcw, pm, this]
theorem put_fix {F L : Nat → zF} {j : Nat} {gM mk mx gI : zF} (h : put F j gM mk mx gI = F) (hk : ∀ k x, k < 31 → L k x = F k x) : put L j gM mk mx gI = L := by
  funext k x
  rcases Nat.lt_or_ge k 31 with l | l
  · rw [put_lo (hk k x l), h, hk k x l]
  · exact put_hi L l x j gM mk mx gI
theorem BR_up {n : Nat} {to fO : zF} {v : Int32} {S : Nat → Nat → zF} {x : Int32} {F : Nat → zF} (h : BR n to fO v S x F) {j : Nat} (hj : j < n) {L : Nat → zF} (hL : ∀ k x, k < 31 → L k x = F k x) {gM gB mk mx gI gL : zF} (hM : MI gM gB mk gI) {c : Int32} (hc : gM 13 + gM 14 = S j 0 13 + S j 0 14 + c) (hs : gM 6 = S j 0 6 ∨ (S j 0 6 < gM 6 ∧ gM 6 ≤ v)) : BR n to fO v (va_up S j (zs6 gM gB mk mx gI gL)) (x + c) (put L j gM mk mx gI) := by
  obtain ⟨a1, a2, a3, a4, a5, a6⟩ := h
  have ho : ∀ i, i ≠ j → va_up S j (zs6 gM gB mk mx gI gL) i = S i := fun i hi => by rw [up_ap, if_neg hi]
  have hjj : va_up S j (zs6 gM gB mk mx gI gL) j = zs6 gM gB mk mx gI gL := by rw [up_ap, if_pos rfl]
  refine ⟨fun i hi => ?_, fun i hi => ?_, fun i hi => ?_, fun i hi => ?_, ?_, ?_⟩
  · by_cases e : i = j
    · subst e
      rw [hjj]
      exact ⟨put_put _ _ _ _ _ _ _ _ _ _, hM⟩
    · rw [ho i e, put_cm L e, put_fix (a1 i hi).1 hL]
      exact ⟨rfl, (a1 i hi).2⟩
  · have e : i ≠ j := by omega
    rw [put_cm L e, put_fix (a2 i hi) hL]
  · rw [put_r9, hL 9 i (by decide)]; exact a3 i hi
  · rw [put_r10, hL 10 i (by decide)]; exact a4 i hi
  · rw [a5, tot_up (S := S) (S' := va_up S j (zs6 gM gB mk mx gI gL)) (j := j) (c := c) (by rw [hjj]; exact hc) (fun i hi => by rw [ho i hi]) n hj]
  · exact GV_up a6 (j := j) (by rw [hjj]; exact hs) (fun i hi => by rw [ho i hi])
theorem up_id {α : Type} (f : Nat → α) (k : Nat) : va_up f k (f k) = f := by
  funext i
  rw [up_ap]
  by_cases h : i = k
  · rw [if_pos h, h]
  · rw [if_neg h]
def HG (gR : zF) (n : Nat) (g g2 : zF) : Prop := n ≤ 12 ∧ RU gR g2 ∧ g 5 = nI n ∧ g2 5 = nI n ∧ TT g2 ∧ g 7 = g2 6
theorem at_s {β : Type} {n j : Nat} {g : zF} (hn : n ≤ 12) (h5 : g 5 = nI n) (hj : j < n) (k1 : Option β) (k2 : Nat → Option β) : zat n g (nI j) k1 k2 = k2 j := by
  unfold zat zmA
  rw [if_pos h5, if_neg (nI_pos (by omega)), if_neg (nI_ge hj (by omega)), nI_clamp (by omega)]
  rfl
theorem zs_0 (a b c d e f : zF) : zs6 a b c d e f 0 = a := rfl
theorem zs_1 (a b c d e f : zF) : zs6 a b c d e f 1 = b := rfl
theorem zs_2 (a b c d e f : zF) : zs6 a b c d e f 2 = c := rfl
theorem zs_3 (a b c d e f : zF) : zs6 a b c d e f 3 = d := rfl
theorem zs_4 (a b c d e f : zF) : zs6 a b c d e f 4 = e := rfl
theorem zs_5 (a b c d e f : zF) : zs6 a b c d e f 5 = f := rfl
/-- letters of the first i machines -/
def LL (i : Nat) (v : Int32) (S : Nat → Nat → zF) (F : Nat → zF) : Prop := ∀ m, m < i → LT (S m 5) F m ∧ (S m 5 0 = 0 ∨ S m 5 1 ≤ v)
theorem LT_cg {gL : zF} {F F' : Nat → zF} {i : Nat} (h : ∀ k, 31 ≤ k → k ≤ 39 → F' k i = F k i) (hL : LT gL F i) : LT gL F' i := by
  unfold LT at hL ⊢
  rw [h 31 (by decide) (by decide), h 32 (by decide) (by decide), h 33 (by decide) (by decide), h 34 (by decide) (by decide), h 35 (by decide) (by decide), h 36 (by decide) (by decide), h 37 (by decide) (by decide), h 38 (by decide) (by decide), h 39 (by decide) (by decide)]
  exact hL
theorem sendL {gR g g2 fO to : zF} {n : Nat} {v : Int32} (C : Nat → Option Nat) (hG : HG gR n g g2) (gD : zF) (S : Nat → Nat → zF) (x : Int32) (F : Nat → zF) (hB : BR n to fO v S x F) : ∀ i, i ≤ n → ∃ gD' S' x' F', s_X6_sendLetters g fO to gR gD S C n = s_X6_sendLetters_b2 g fO to gR C n (13 - i) gD' S' (nI i) ∧ (∀ (kx : zF → (Nat → zF) → Int32 → Int32 → Option (Int32 × zF × (Nat → zF))) (l1 l2 : Int32), s_X7_ticks_b33 kx 13 (dg (va_up g2 7 x) gD) F l1 l2 0 = s_X7_ticks_b33 kx (13 - i) (dg (va_up g2 7 x') gD') F' l1 l2 (nI i)) ∧ BR n to fO v S' x' F' ∧ LL i v S' F'
  | 0, _ => by
    refine ⟨gD, S, x, F, ?_, ?_, hB, fun m hm => by omega⟩
    · rw [nI_0, Nat.sub_zero]; rfl
    · intro kx l1 l2
      rw [nI_0, Nat.sub_zero]
  | i + 1, hi => by
    obtain ⟨gD1, S1, x1, F1, p1, p2, p3, p4⟩ := sendL C hG gD S x F hB i (by omega)
    obtain ⟨hn, hR, h5, h25, hT, h7⟩ := hG
    have hin : i < n := by omega
    have hR1 : RU gR (va_up g2 7 x1) := hR
    have hF := (p3.1 i hin).1
    have hMI := (p3.1 i hin).2
    obtain ⟨gM', gL', gD', L', c, o1, o2, o3, o4, o5, o6, o7, o8⟩ := send_sim (gD := gD1) hR1 (F := F1) (j := i) (by omega) (S1 i 3) (S1 i 5) hMI
    rw [hF] at o2
    have e6 : va_up g2 7 x1 6 = g 7 := h7.symm
    rw [e6] at o1
    have e5 : dg (va_up g2 7 x1) gD1 5 = nI n := h25
    rw [show va_up g2 7 x1 7 = x1 from rfl, bx_uu] at o2
    refine ⟨gD', va_up S1 i (zs6 gM' (S1 i 1) (S1 i 2) (S1 i 3) (S1 i 4) gL'), x1 + c, put L' i gM' (S1 i 2) (S1 i 3) (S1 i 4), ?_, ?_, ?_, ?_⟩
    · rw [p1, show 13 - i = (13 - (i + 1)) + 1 by omega, s_X6_sendLetters_b2, h5, if_neg (nI_ge hin (by omega)), at_s hn h5 hin, o1, zb3_s]
      simp -implicitDefEqProofs only [zl_e, nI_s]
    · intro kx l1 l2
      rw [p2 kx l1 l2, show 13 - i = (13 - (i + 1)) + 1 by omega, s_X7_ticks_b33, e5, if_neg (nI_ge hin (by omega)), o2, zb2_s]
      simp -implicitDefEqProofs only [zl_e, nI_s]
    · exact BR_up p3 hin (fun k x hk => o4 k x (Or.inl hk)) o5 o7 (Or.inl o6)
    · intro m hm
      by_cases e : m = i
      · subst e
        rw [up_ap, if_pos rfl, zs_5]
        refine ⟨LT_cg (fun k h1 h2 => put_hi L' h1 _ _ _ _ _ _) o3, ?_⟩
        rcases o8 with o8 | o8
        · exact Or.inl o8
        · rw [o8]; exact Or.inr (p3.2.2.2.2.2.1 m hin)
      · obtain ⟨q1, q2⟩ := p4 m (by omega)
        rw [up_ap, if_neg e]
        exact ⟨LT_cg (fun k h1 h2 => (put_hi L' h1 _ _ _ _ _ _).trans (o4 k m (Or.inr (Or.inr e)))) q1, q2⟩
theorem send_all {gR g g2 fO to : zF} {n : Nat} {v : Int32} (C : Nat → Option Nat) (hG : HG gR n g g2) (gD : zF) (S : Nat → Nat → zF) (x : Int32) (F : Nat → zF) (hB : BR n to fO v S x F) : ∃ gD' S' x' F', s_X6_sendLetters g fO to gR gD S C n = some (gD', S') ∧ (∀ (kx : zF → (Nat → zF) → Int32 → Int32 → Option (Int32 × zF × (Nat → zF))) (l1 l2 : Int32), s_X7_ticks_b33 kx 13 (dg (va_up g2 7 x) gD) F l1 l2 0 = kx (dg (va_up g2 7 x') gD') F' l1 l2) ∧ BR n to fO v S' x' F' ∧ LL n v S' F' := by
  obtain ⟨gD', S', x', F', p1, p2, p3, p4⟩ := sendL C hG gD S x F hB n (Nat.le_refl n)
  obtain ⟨hn, hR, h5, h25, hT, h7⟩ := hG
  have e5 : dg (va_up g2 7 x') gD' 5 = nI n := h25
  refine ⟨gD', S', x', F', ?_, ?_, p3, p4⟩
  · rw [p1, show 13 - n = (12 - n) + 1 by omega, s_X6_sendLetters_b2, h5, if_pos (nI_le (Nat.le_refl n) (by omega))]
  · intro kx l1 l2
    rw [p2 kx l1 l2, show 13 - n = (12 - n) + 1 by omega, s_X7_ticks_b33, e5, if_pos (nI_le (Nat.le_refl n) (by omega))]
