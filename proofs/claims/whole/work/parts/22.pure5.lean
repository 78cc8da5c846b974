/-! pure part 5: the n-th of a basis, mixes, tearing, loading -/
def hN (mk : zF) : Int32 → Nat → Option Nat
  | _, 0 => none
  | r, c + 1 => if mk c = 0 then hN mk r c else if r = 0 then some c else hN mk (r + (-1)) c
theorem hN_lt (mk : zF) : ∀ c r h, hN mk r c = some h → h < c ∧ ¬ mk h = 0
  | 0, r, h, e => by cases e
  | c + 1, r, h, e => by
    unfold hN at e
    by_cases h0 : mk c = 0
    · rw [if_pos h0] at e
      have := hN_lt mk c r h e
      exact ⟨by omega, this.2⟩
    · rw [if_neg h0] at e
      by_cases r0 : r = 0
      · rw [if_pos r0] at e
        cases e
        exact ⟨by omega, h0⟩
      · rw [if_neg r0] at e
        have := hN_lt mk c _ h e
        exact ⟨by omega, this.2⟩
theorem hN_cg {mk mk' : zF} : ∀ c, (∀ i, i < c → mk i = mk' i) → ∀ r, hN mk r c = hN mk' r c
  | 0, _, _ => rfl
  | c + 1, h, r => by rw [hN, hN, h c (by omega), hN_cg c (fun i hi => h i (by omega)), hN_cg c (fun i hi => h i (by omega))]
theorem sub_z {x y : Int32} : (y = x) ↔ (x - y = 0) := by
  constructor
  · intro h; subst h; exact Int32.sub_self y
  · intro h
    have h1 := congrArg (· + y) h
    simp only [Int32.sub_add_cancel, Int32.zero_add] at h1
    exact h1.symm
theorem sub_1 (x y : Int32) : x - (y + 1) = x - y + (-1) := by
  rw [Int32.sub_eq_add_neg, Int32.sub_eq_add_neg, Int32.neg_add, Int32.add_assoc, Int32.sub_eq_add_neg]
theorem nth_r (gB mk : zF) (nth : Int32) : ∀ c pl, c ≤ 12 → s_X0_headOfNth_b5 gB mk (c + 1) nth pl (nI c + (-1)) = some (hdI (hN mk (nth - pl) c))
  | 0, pl, _ => by
    rw [s_X0_headOfNth_b5, if_pos (by decide)]
    simp [hN, hdI]
  | c + 1, pl, hc => by
    rw [s_X0_headOfNth_b5, dec_e]
    simp -implicitDefEqProofs only [nj_n (show c < 12 by omega), nj_cl (show c < 12 by omega), nj_l (show c < 12 by omega), or_self, if_false, zl_e]
    rw [hN]
    by_cases h0 : mk c = 0
    · rw [if_pos h0, if_pos h0, nth_r gB mk nth c pl (by omega)]
    · rw [if_neg h0, if_neg h0]
      by_cases e : pl = nth
      · rw [if_pos e, if_pos (sub_z.mp e), hdI_s]
      · rw [if_neg e, if_neg (fun q => e (sub_z.mpr q)), nth_r gB mk nth c (pl + 1) (by omega), sub_1]
theorem sub_0 (x : Int32) : x - 0 = x := Int32.sub_zero x
theorem nth_e (gB mk : zF) (nth : Int32) : s_X0_headOfNth gB mk nth = some (hdI (hN mk nth 12)) := by
  have h := nth_r gB mk nth 12 0 (by omega)
  rw [n11_e, sub_0] at h
  exact h
theorem hdI_ne {h : Nat} (hh : h < 12) : ¬ nI h = -1 := fun e => nI_pos (n := h) (by omega) (by rw [e]; decide)
theorem maskN_e (gB mk : zF) (nth : Int32) : s_X0_maskOfNth gB mk nth = some (match hN mk nth 12 with | none => -1 | some h => mk h) := by
  unfold s_X0_maskOfNth
  rw [nth_e, zb1_s]
  cases h : hN mk nth 12 with
  | none => rw [hdI_n, if_pos rfl]
  | some x =>
    have hx := (hN_lt mk 12 nth x h).1
    rw [hdI_s, if_neg (hdI_ne hx)]
    simp only [nj_n hx, nj_cl hx, nj_l hx, or_self, if_false]
theorem dataN_e (gB mk mx : zF) (nth : Int32) : s_X0_dataOfNth gB mk mx nth = some (match hN mk nth 12 with | none => 0 | some h => mx h) := by
  unfold s_X0_dataOfNth
  rw [nth_e, zb1_s]
  cases h : hN mk nth 12 with
  | none => rw [hdI_n, if_pos rfl]
  | some x =>
    have hx := (hN_lt mk 12 nth x h).1
    rw [hdI_s, if_neg (hdI_ne hx)]
    simp only [nj_n hx, nj_cl hx, nj_l hx, or_self, if_false]
theorem head7_r (g : zF) (F : Nat → zF) (nth : Int32) (hn : ¬ nth < 0) {j : Nat} (hj : j < 12) : ∀ c r, c ≤ 12 → s_X7_headOf_b6 g F (c + 1) (nI j) nth r (nI c + (-1)) = some (hdI (hN (col F 14 j) r c))
  | 0, r, _ => by
    rw [s_X7_headOf_b6, if_pos (by decide)]
    simp [hN, hdI]
  | c + 1, r, hc => by
    rw [s_X7_headOf_b6, dec_e]
    have hc' : c < 12 := by omega
    simp -implicitDefEqProofs only [nj_n hc', hn, ix_cl hj hc', ix_n hj hc', ix_l hj hc', or_self, if_false, zl_e]
    rw [hN]
    by_cases h0 : F 14 (12 * j + c) = 0
    · rw [if_pos h0, if_pos (show col F 14 j c = 0 from h0), head7_r g F nth hn hj c r (by omega)]
    · rw [if_neg h0, if_neg (show ¬ col F 14 j c = 0 from h0)]
      by_cases e : r = 0
      · rw [if_pos e, if_pos e, hdI_s]
      · rw [if_neg e, if_neg e, head7_r g F nth hn hj c _ (by omega)]
theorem head7_e (g : zF) (F : Nat → zF) (nth : Int32) {j : Nat} (hj : j < 12) : s_X7_headOf g F (nI j) nth = some (if nth < 0 then -1 else hdI (hN (col F 14 j) nth 12)) := by
  by_cases hn : nth < 0
  · rw [if_pos hn]
    unfold s_X7_headOf
    rw [s_X7_headOf_b6, if_neg (by decide), if_pos hn]
  · rw [if_neg hn]
    have h := head7_r g F nth hn hj 12 nth (by omega)
    rw [n11_e] at h
    exact h
theorem hN_neg (mk : zF) : ∀ c r h, hN mk r c = some h → ∃ k, k < c ∧ r = nI k
  | 0, r, h, e => by cases e
  | c + 1, r, h, e => by
    unfold hN at e
    by_cases h0 : mk c = 0
    · rw [if_pos h0] at e
      obtain ⟨k, h1, h2⟩ := hN_neg mk c r h e
      exact ⟨k, by omega, h2⟩
    · rw [if_neg h0] at e
      by_cases r0 : r = 0
      · exact ⟨0, by omega, by rw [r0, nI_0]⟩
      · rw [if_neg r0] at e
        obtain ⟨k, h1, h2⟩ := hN_neg mk c _ h e
        refine ⟨k + 1, by omega, ?_⟩
        have h3 := congrArg (· + 1) h2
        simp only [nI_1] at h3
        rw [← h3, Int32.add_assoc]
        simp
theorem hN_none {mk : zF} {r : Int32} (h : r < 0) : hN mk r 12 = none := by
  cases e : hN mk r 12 with
  | none => rfl
  | some x =>
    obtain ⟨k, hk, rfl⟩ := hN_neg mk 12 r x e
    exact absurd h (nI_pos (by omega))
theorem hN_some {mk : zF} : ∀ c, (∃ i, i < c ∧ ¬ mk i = 0) → ∃ h, hN mk 0 c = some h
  | 0, ⟨i, h, _⟩ => by omega
  | c + 1, ⟨i, h, h0⟩ => by
    rw [hN]
    by_cases hc : mk c = 0
    · rw [if_pos hc]
      exact hN_some c ⟨i, by
        by_cases e : i = c
        · subst e; exact absurd hc h0
        · omega, h0⟩
    · rw [if_neg hc, if_pos rfl]
      exact ⟨c, rfl⟩
