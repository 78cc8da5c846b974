/-! pure part 4: what holds of a basis -/
def BI (mk : zF) : Prop := ∀ h, h < 12 → ¬ mk h = 0 → bt (mk h) h = true ∧ (∀ i, h < i → bt (mk h) i = false) ∧ ∀ h', h' < 12 → h' ≠ h → ¬ mk h' = 0 → bt (mk h) h' = false
def Lo12 (a : Int32) : Prop := ∀ i, 12 ≤ i → bt a i = false
def ctN (f : zF) : Nat → Nat
  | 0 => 0
  | k + 1 => ctN f k + (if f k = 0 then 0 else 1)
theorem cn_ct (f : zF) : ∀ k, cnN f k = nI (ctN f k)
  | 0 => rfl
  | k + 1 => by
    rw [cnN, ctN, cn_ct f k]
    by_cases h : f k = 0
    · rw [if_pos h, if_pos h, Nat.add_zero]
      simp
    · rw [if_neg h, if_neg h, nI_1]
theorem ct_le (f : zF) : ∀ k, ctN f k ≤ k
  | 0 => Nat.le_refl _
  | k + 1 => by
    have := ct_le f k
    rw [ctN]
    split <;> omega
theorem ct_cg {f f' : zF} : ∀ k, (∀ h, h < k → (f h = 0 ↔ f' h = 0)) → ctN f k = ctN f' k
  | 0, _ => rfl
  | k + 1, h => by
    rw [ctN, ctN, ct_cg k (fun i hi => h i (by omega))]
    by_cases h0 : f k = 0
    · rw [if_pos h0, if_pos ((h k (by omega)).mp h0)]
    · rw [if_neg h0, if_neg (fun e => h0 ((h k (by omega)).mpr e))]
theorem ct_up {f f' : zF} {hd : Nat} (h1 : f hd = 0) (h2 : ¬ f' hd = 0) : ∀ k, hd < k → (∀ h, h < k → h ≠ hd → (f h = 0 ↔ f' h = 0)) → ctN f' k = ctN f k + 1
  | 0, h, _ => by omega
  | k + 1, h, e => by
    rw [ctN, ctN]
    by_cases hk : hd = k
    · subst hk
      rw [if_pos h1, if_neg h2, ct_cg (f := f') (f' := f) hd (fun i hi => (e i (by omega) (by omega)).symm)]
    · rw [ct_up h1 h2 k (by omega) (fun i hi => e i (by omega))]
      by_cases h0 : f k = 0
      · rw [if_pos h0, if_pos ((e k (by omega) (fun q => hk q.symm)).mp h0)]
      · rw [if_neg h0, if_neg (fun q => h0 ((e k (by omega) (fun q => hk q.symm)).mpr q))]
theorem ct_pos {f : zF} : ∀ k, 0 < ctN f k → ∃ h, h < k ∧ ¬ f h = 0
  | 0, h => by cases h
  | k + 1, h => by
    rw [ctN] at h
    by_cases h0 : f k = 0
    · rw [if_pos h0] at h
      obtain ⟨i, h1, h2⟩ := ct_pos k h
      exact ⟨i, by omega, h2⟩
    · exact ⟨k, by omega, h0⟩
theorem rd_lo {mk mx : zF} (hB : BI mk) {a d : Int32} (ha : Lo12 a) : ∀ k, k ≤ 12 → Lo12 (rdN mk mx k (a, d)).1
  | 0, _ => ha
  | k + 1, hk => by
    have ih := rd_lo (mx := mx) (d := d) hB ha k (by omega)
    rw [rdN]
    by_cases c : ¬ mk k = 0 ∧ bt (rdN mk mx k (a, d)).1 k = true
    · rw [if_pos c]
      intro i hi
      show bt (_ ^^^ _) i = false
      rw [b_xor, ih i hi, (hB k (by omega) c.1).2.1 i (by omega)]
      rfl
    · rw [if_neg c]; exact ih
theorem rd_pv {mk mx : zF} (hB : BI mk) {a d : Int32} : ∀ k, k ≤ 12 → ∀ h, h < k → ¬ mk h = 0 → bt (rdN mk mx k (a, d)).1 h = false
  | 0, _, h, hh, _ => by omega
  | k + 1, hk, h, hh, h0 => by
    rw [rdN]
    by_cases c : ¬ mk k = 0 ∧ bt (rdN mk mx k (a, d)).1 k = true
    · rw [if_pos c]
      show bt (_ ^^^ _) h = false
      rw [b_xor]
      by_cases e : h = k
      · subst e
        rw [c.2, (hB h (by omega) h0).1]
        rfl
      · rw [rd_pv hB k (by omega) h (by omega) h0, (hB k (by omega) c.1).2.2 h (by omega) e h0]
        rfl
    · rw [if_neg c]
      by_cases e : h = k
      · subst e
        cases hb : bt (rdN mk mx h (a, d)).1 h with
        | false => rfl
        | true => exact absurd ⟨h0, hb⟩ c
      · exact rd_pv hB k (by omega) h (by omega) h0
theorem ti_at (mk mx : zF) (a d : Int32) (hd h : Nat) (hh : h < 12) : tiM mk mx a d hd h = if h = hd then (rdN mk mx 12 (a, d)).1 else if bt (mk h) hd = true then mk h ^^^ (rdN mk mx 12 (a, d)).1 else mk h := by
  unfold tiM
  rw [upd_ap]
  by_cases e : h = hd
  · rw [if_pos e, if_pos e]
  · rw [if_neg e, if_neg e]
    by_cases hb : bt (mk h) hd = true
    · simp [inM, hh, hb]
    · simp [inM, hb]
theorem ti_all {mk mx : zF} (hB : BI mk) {a d : Int32} (ha : Lo12 a) {hd : Nat} (ht : tpN (rdN mk mx 12 (a, d)).1 12 = some hd) : BI (tiM mk mx a d hd) ∧ ctN (tiM mk mx a d hd) 12 = ctN mk 12 + 1 := by
  obtain ⟨hhd, hbt, htop⟩ := tpN_lt ht
  have hlo := rd_lo (mx := mx) (d := d) hB ha 12 (by omega)
  have hpv := rd_pv (mx := mx) (a := a) (d := d) hB 12 (by omega)
  have hz : mk hd = 0 := by
    by_cases h0 : mk hd = 0
    · exact h0
    · rw [hpv hd hhd h0] at hbt; cases hbt
  generalize hr : (rdN mk mx 12 (a, d)).1 = r at hbt htop hlo hpv
  have hat : ∀ h, h < 12 → tiM mk mx a d hd h = if h = hd then r else if bt (mk h) hd = true then mk h ^^^ r else mk h := fun h hh => by rw [ti_at mk mx a d hd h hh, hr]
  generalize tiM mk mx a d hd = M at hat
  have hab : ∀ i, hd < i → bt r i = false := fun i hi => by
    by_cases h12 : i < 12
    · exact htop i hi h12
    · exact hlo i (by omega)
  have hMhd : M hd = r := by rw [hat hd hhd, if_pos rfl]
  have hr0 : ¬ r = 0 := fun e => by rw [e, b_0] at hbt; cases hbt
  have hM0 : ∀ h, h < 12 → h ≠ hd → mk h = 0 → M h = 0 := fun h hh hne h0 => by
    rw [hat h hh, if_neg hne, h0, b_0, if_neg (by decide)]
  have hMb : ∀ h, h < 12 → h ≠ hd → ¬ mk h = 0 → bt (M h) h = true := fun h hh hne h0 => by
    rw [hat h hh, if_neg hne]
    by_cases hb : bt (mk h) hd = true
    · rw [if_pos hb, b_xor, (hB h hh h0).1, hpv h hh h0]
      rfl
    · rw [if_neg hb]; exact (hB h hh h0).1
  have hM1 : ∀ h, h < 12 → h ≠ hd → ¬ mk h = 0 → ¬ M h = 0 := fun h hh hne h0 e => by
    have := hMb h hh hne h0
    rw [e, b_0] at this
    cases this
  have hmk : ∀ h, h < 12 → h ≠ hd → ¬ M h = 0 → ¬ mk h = 0 := fun h hh hne h0 e => h0 (hM0 h hh hne e)
  refine ⟨?_, ct_up hz (by rw [hMhd]; exact hr0) 12 hhd (fun h hh hne => ⟨hM0 h hh hne, fun e => by
    by_cases h0 : mk h = 0
    · exact h0
    · exact absurd e (hM1 h hh hne h0)⟩)⟩
  intro h hh h0
  by_cases e : h = hd
  · subst e
    rw [hMhd]
    refine ⟨hbt, hab, fun h' hh' hne h0' => hpv h' hh' (hmk h' hh' hne h0')⟩
  · have hm := hmk h hh e h0
    obtain ⟨q1, q2, q3⟩ := hB h hh hm
    refine ⟨hMb h hh e hm, fun i hi => ?_, fun h' hh' hne h0' => ?_⟩
    · rw [hat h hh, if_neg e]
      by_cases hb : bt (mk h) hd = true
      · have : ¬ h < hd := fun l => by rw [q2 hd l] at hb; cases hb
        rw [if_pos hb, b_xor, q2 i hi, hab i (by omega)]
        rfl
      · rw [if_neg hb]; exact q2 i hi
    · rw [hat h hh, if_neg e]
      by_cases e' : h' = hd
      · subst e'
        by_cases hb : bt (mk h) h' = true
        · rw [if_pos hb, b_xor, hb, hbt]
          rfl
        · rw [if_neg hb]; simpa using hb
      · have hm' := hmk h' hh' e' h0'
        by_cases hb : bt (mk h) hd = true
        · rw [if_pos hb, b_xor, q3 h' hh' hne hm', hpv h' hh' hm']
          rfl
        · rw [if_neg hb]; exact q3 h' hh' hne hm'
theorem BI_z {mk : zF} (h : ∀ i, i < 12 → mk i = 0) : BI mk := fun i hi h0 => absurd (h i hi) h0
theorem BI_cg {mk mk' : zF} (h : ∀ i, i < 12 → mk i = mk' i) (hB : BI mk) : BI mk' := by
  intro i hi h0
  rw [← h i hi] at h0 ⊢
  obtain ⟨a, b, c⟩ := hB i hi h0
  exact ⟨a, b, fun h' hh hne h1 => c h' hh hne (by rw [h h' hh]; exact h1)⟩
theorem ct_z {f : zF} : ∀ k, (∀ i, i < k → f i = 0) → ctN f k = 0
  | 0, _ => rfl
  | k + 1, h => by rw [ctN, if_pos (h k (by omega)), ct_z k (fun i hi => h i (by omega))]
theorem rd_cg {mk mx mk' mx' : zF} (p : Int32 × Int32) : ∀ k, (∀ i, i < k → mk i = mk' i) → (∀ i, i < k → mx i = mx' i) → rdN mk mx k p = rdN mk' mx' k p
  | 0, _, _ => rfl
  | k + 1, h1, h2 => by rw [rdN, rdN, rd_cg p k (fun i hi => h1 i (by omega)) (fun i hi => h2 i (by omega)), h1 k (by omega), h2 k (by omega)]
theorem tiM_cg {mk mx mk' mx' : zF} (a d : Int32) (hd : Nat) (h1 : ∀ i, i < 12 → mk i = mk' i) (h2 : ∀ i, i < 12 → mx i = mx' i) : ∀ i, i < 12 → tiM mk mx a d hd i = tiM mk' mx' a d hd i := by
  intro i hi
  rw [ti_at _ _ _ _ _ _ hi, ti_at _ _ _ _ _ _ hi, rd_cg _ 12 h1 h2, h1 i hi]
theorem tiX_cg {mk mx mk' mx' : zF} (a d : Int32) (hd : Nat) (h1 : ∀ i, i < 12 → mk i = mk' i) (h2 : ∀ i, i < 12 → mx i = mx' i) : ∀ i, i < 12 → tiX mk mx a d hd i = tiX mk' mx' a d hd i := by
  intro i hi
  unfold tiX inX
  rw [upd_ap, upd_ap, rd_cg _ 12 h1 h2, h1 i hi, h2 i hi]
