/-! pure part 3: the reference's basis -/
def col (F : Nat → zF) (k j : Nat) : zF := fun h => F k (12 * j + h)
theorem zcw_in (F : Nat → zF) (k j : Nat) (f : zF) {h : Nat} (hh : h < 12) : zcw F k j f k (12 * j + h) = f h := by
  rw [zcw_ap, if_pos ⟨rfl, by omega, by omega⟩, Nat.add_sub_cancel_left]
theorem zcw_ne (F : Nat → zF) (k j : Nat) (f : zF) {k' : Nat} (hk : k' ≠ k) (x : Nat) : zcw F k j f k' x = F k' x := by
  rw [zcw_ap, if_neg (fun h => hk h.1)]
theorem zcw_self (F : Nat → zF) (k j : Nat) : zcw F k j (col F k j) = F := by
  funext k' x
  rw [zcw_ap]
  by_cases h : k' = k ∧ 12 * j ≤ x ∧ x < 12 * j + 12
  · rw [if_pos h]
    obtain ⟨rfl, h1, h2⟩ := h
    show F k' (12 * j + (x - 12 * j)) = F k' x
    rw [show 12 * j + (x - 12 * j) = x by omega]
  · rw [if_neg h]
theorem zu_zcw (G : Nat → zF) (k j : Nat) (f : zF) {i : Nat} (hi : i < 12) (v : Int32) : zu (zcw G k j f) k (12 * j + i) v = zcw G k j (upd f i v) := by
  funext k' x
  rw [zu_ap, zcw_ap, zcw_ap]
  by_cases h : k' = k ∧ x = 12 * j + i
  · obtain ⟨rfl, rfl⟩ := h
    rw [if_pos ⟨rfl, rfl⟩, if_pos ⟨rfl, by omega, by omega⟩, Nat.add_sub_cancel_left, upd_ap, if_pos rfl]
  · rw [if_neg h]
    by_cases h2 : k' = k ∧ 12 * j ≤ x ∧ x < 12 * j + 12
    · rw [if_pos h2, if_pos h2, upd_ap, if_neg]
      intro e
      exact h ⟨h2.1, by omega⟩
    · rw [if_neg h2, if_neg h2]
theorem zu_zcw_ne (G : Nat → zF) (k j : Nat) (f : zF) {k' : Nat} (hk : k' ≠ k) (x : Nat) (v : Int32) : zu (zcw G k j f) k' x v = zcw (zu G k' x v) k j f := by
  funext k2 y
  rw [zu_ap, zcw_ap, zcw_ap, zu_ap]
  by_cases h : k2 = k'
  · subst h
    have h2 : ¬ (k2 = k ∧ 12 * j ≤ y ∧ y < 12 * j + 12) := fun e => hk e.1
    rw [if_neg h2, if_neg h2]
  · have h3 : ¬ (k2 = k' ∧ y = x) := fun e => h e.1
    rw [if_neg h3, if_neg h3]
theorem rank_r1 (g : zF) (F : Nat → zF) (f : Nat) {j h : Nat} (hj : j < 12) (hh : h < 12) : s_X7_rank_b4 g F (f + 1) (nI j) (cnN (col F 14 j) h) (nI h) = s_X7_rank_b4 g F f (nI j) (cnN (col F 14 j) (h + 1)) (nI (h + 1)) := by
  rw [s_X7_rank_b4]
  simp only [n12_le hh, if_false, ix_cl hj hh, ix_n hj hh, ix_l hj hh, or_self, zl_e, nI_s]
  by_cases h0 : F 14 (12 * j + h) = 0
  · simp [h0, cnN, col]
  · simp [h0, cnN, col]
theorem rank_r (g : zF) (F : Nat → zF) {j : Nat} (hj : j < 12) : ∀ h, h ≤ 12 → s_X7_rank_b4 g F 13 (nI j) 0 0 = s_X7_rank_b4 g F (13 - h) (nI j) (cnN (col F 14 j) h) (nI h)
  | 0, _ => by rw [nI_0]; rfl
  | h + 1, hh => by
    rw [rank_r g F hj h (by omega), show 13 - h = (13 - (h + 1)) + 1 by omega]
    exact rank_r1 g F _ hj (by omega)
theorem rank_e (g : zF) (F : Nat → zF) {j : Nat} (hj : j < 12) : s_X7_rank g F (nI j) = some (cnN (col F 14 j) 12) := by
  unfold s_X7_rank
  rw [rank_r g F hj 12 (by omega), show 13 - 12 = 0 + 1 by rfl, s_X7_rank_b4]
  simp only [n12_ge, if_true]
theorem sumOf_r1 (g : zF) (F : Nat → zF) (f : Nat) {j h : Nat} (hj : j < 12) (hh : h < 12) : s_X7_sumOf_b4 g F (f + 1) (nI j) (smN (col F 15 j) h) (nI h) = s_X7_sumOf_b4 g F f (nI j) (smN (col F 15 j) (h + 1)) (nI (h + 1)) := by
  rw [s_X7_sumOf_b4]
  simp only [n12_le hh, if_false, ix_cl hj hh, ix_n hj hh, ix_l hj hh, or_self, zl_e, nI_s, smN, col]
theorem sumOf_r (g : zF) (F : Nat → zF) {j : Nat} (hj : j < 12) : ∀ h, h ≤ 12 → s_X7_sumOf_b4 g F 13 (nI j) 0 0 = s_X7_sumOf_b4 g F (13 - h) (nI j) (smN (col F 15 j) h) (nI h)
  | 0, _ => by rw [nI_0]; rfl
  | h + 1, hh => by
    rw [sumOf_r g F hj h (by omega), show 13 - h = (13 - (h + 1)) + 1 by omega]
    exact sumOf_r1 g F _ hj (by omega)
theorem sumOf_e (g : zF) (F : Nat → zF) {j : Nat} (hj : j < 12) : s_X7_sumOf g F (nI j) = some (smN (col F 15 j) 12) := by
  unfold s_X7_sumOf
  rw [sumOf_r g F hj 12 (by omega), show 13 - 12 = 0 + 1 by rfl, s_X7_sumOf_b4]
  simp only [n12_ge, if_true]
def epN (i : Nat) (f : zF) : zF := fun h => if h < i then 0 else f h
theorem epN_s (i : Nat) (f : zF) : upd (epN i f) i 0 = epN (i + 1) f := by
  funext h
  rw [upd_ap]
  by_cases e : h = i
  · subst e; simp [epN]
  · have : (h < i + 1) = (h < i) := by simp; omega
    simp [epN, e, this]
theorem epN_0 (f : zF) : epN 0 f = f := by funext h; simp [epN]
/-- both columns of a machine -/
def zc2 (F : Nat → zF) (j : Nat) (mk mx : zF) : Nat → zF := zcw (zcw F 14 j mk) 15 j mx
theorem zc2_14 (F : Nat → zF) (j : Nat) (mk mx : zF) {i : Nat} (hi : i < 12) (v : Int32) : zu (zc2 F j mk mx) 14 (12 * j + i) v = zc2 F j (upd mk i v) mx := by
  unfold zc2
  rw [zu_zcw_ne _ _ _ _ (by decide), zu_zcw _ _ _ _ hi]
theorem zc2_15 (F : Nat → zF) (j : Nat) (mk mx : zF) {i : Nat} (hi : i < 12) (v : Int32) : zu (zc2 F j mk mx) 15 (12 * j + i) v = zc2 F j mk (upd mx i v) := by
  unfold zc2
  rw [zu_zcw _ _ _ _ hi]
theorem zc2_self (F : Nat → zF) (j : Nat) : zc2 F j (col F 14 j) (col F 15 j) = F := by
  unfold zc2
  rw [zcw_self, zcw_self]
theorem zc2_a (F : Nat → zF) (j : Nat) (mk mx : zF) {h : Nat} (hh : h < 12) : zc2 F j mk mx 14 (12 * j + h) = mk h := by
  unfold zc2
  rw [zcw_ne _ _ _ _ (by decide), zcw_in _ _ _ _ hh]
theorem zc2_d (F : Nat → zF) (j : Nat) (mk mx : zF) {h : Nat} (hh : h < 12) : zc2 F j mk mx 15 (12 * j + h) = mx h := by
  unfold zc2
  rw [zcw_in _ _ _ _ hh]
theorem zc2_o (F : Nat → zF) (j : Nat) (mk mx : zF) {k : Nat} (h1 : k ≠ 14) (h2 : k ≠ 15) (x : Nat) : zc2 F j mk mx k x = F k x := by
  unfold zc2
  rw [zcw_ne _ _ _ _ h2, zcw_ne _ _ _ _ h1]
theorem zc2_z2 (F : Nat → zF) (j : Nat) (a b c d : zF) : zc2 (zc2 F j a b) j c d = zc2 F j c d := by
  funext k x
  unfold zc2
  simp only [zcw_ap]
  by_cases h1 : k = 15 ∧ 12 * j ≤ x ∧ x < 12 * j + 12
  · simp [h1]
  · by_cases h2 : k = 14 ∧ 12 * j ≤ x ∧ x < 12 * j + 12
    · simp [h2]
    · simp [h1, h2]
theorem zc2_cg (F : Nat → zF) (j : Nat) {a b c d : zF} (h1 : ∀ h, h < 12 → a h = c h) (h2 : ∀ h, h < 12 → b h = d h) : zc2 F j a b = zc2 F j c d := by
  funext k x
  unfold zc2
  simp only [zcw_ap]
  by_cases e1 : k = 15 ∧ 12 * j ≤ x ∧ x < 12 * j + 12
  · simp [e1, h2 (x - 12 * j) (by omega)]
  · by_cases e2 : k = 14 ∧ 12 * j ≤ x ∧ x < 12 * j + 12
    · simp [e2, h1 (x - 12 * j) (by omega)]
    · simp [e1, e2]
theorem zc2_zu (F : Nat → zF) (j : Nat) (a b : zF) {k : Nat} (h1 : k ≠ 14) (h2 : k ≠ 15) (x : Nat) (v : Int32) : zu (zc2 F j a b) k x v = zc2 (zu F k x v) j a b := by
  unfold zc2
  rw [zu_zcw_ne _ _ _ _ h2, zu_zcw_ne _ _ _ _ h1]
theorem empty7_r1 (g : zF) (F : Nat → zF) (f : Nat) {j h : Nat} (hj : j < 12) (hh : h < 12) (a b : zF) : s_X7_empty_b2 g (f + 1) (zc2 F j (epN h a) (epN h b)) (nI j) (nI h) = s_X7_empty_b2 g f (zc2 F j (epN (h + 1) a) (epN (h + 1) b)) (nI j) (nI (h + 1)) := by
  rw [s_X7_empty_b2]
  simp only [n12_le hh, if_false, ix_cl hj hh, ix_n hj hh, ix_l hj hh, or_self, zl_e, nI_s]
  rw [zc2_14 _ _ _ _ hh, zc2_15 _ _ _ _ hh, epN_s, epN_s]
theorem empty7_r (g : zF) (F : Nat → zF) {j : Nat} (hj : j < 12) : ∀ h, h ≤ 12 → s_X7_empty_b2 g 13 F (nI j) 0 = s_X7_empty_b2 g (13 - h) (zc2 F j (epN h (col F 14 j)) (epN h (col F 15 j))) (nI j) (nI h)
  | 0, _ => by rw [nI_0, epN_0, epN_0, zc2_self]
  | h + 1, hh => by
    rw [empty7_r g F hj h (by omega), show 13 - h = (13 - (h + 1)) + 1 by omega]
    exact empty7_r1 g F _ hj (by omega) _ _
def z0 : zF := fun _ => 0
theorem empty7_e (g : zF) (F : Nat → zF) {j : Nat} (hj : j < 12) : s_X7_empty g F (nI j) = some (zc2 F j z0 z0) := by
  unfold s_X7_empty
  rw [empty7_r g F hj 12 (by omega), show 13 - 12 = 0 + 1 by rfl, s_X7_empty_b2]
  simp only [n12_ge, if_true]
  rw [zc2_cg F j (c := z0) (d := z0) (fun h hh => by simp [epN, hh, z0]) (fun h hh => by simp [epN, hh, z0])]
theorem come_r1 (g : zF) (F : Nat → zF) (a d : Int32) (f : Nat) {j h : Nat} (hj : j < 12) (hh : h < 12) : s_X7_comesIn_b9 g (f + 1) F (nI j) (rdN (col F 14 j) (col F 15 j) h (a, d)).1 (rdN (col F 14 j) (col F 15 j) h (a, d)).2 (nI h) = s_X7_comesIn_b9 g f F (nI j) (rdN (col F 14 j) (col F 15 j) (h + 1) (a, d)).1 (rdN (col F 14 j) (col F 15 j) (h + 1) (a, d)).2 (nI (h + 1)) := by
  rw [s_X7_comesIn_b9]
  simp only [n12_le hh, if_false, ix_cl hj hh, ix_n hj hh, ix_l hj hh, or_self, zl_e, nI_s, shr_bt (show h < 32 by omega)]
  by_cases h0 : F 14 (12 * j + h) = 0
  · rw [if_pos h0]
    simp [rdN, col, h0]
  · rw [if_neg h0]
    by_cases hb : bt (rdN (col F 14 j) (col F 15 j) h (a, d)).1 h = true
    · rw [if_neg (by rw [hb]; decide)]
      simp [rdN, hb, h0, col]
    · rw [if_pos (by simpa using hb)]
      simp [rdN, hb]
theorem come_r (g : zF) (F : Nat → zF) (a d : Int32) {j : Nat} (hj : j < 12) : ∀ h, h ≤ 12 → s_X7_comesIn_b9 g 13 F (nI j) a d 0 = s_X7_comesIn_b9 g (13 - h) F (nI j) (rdN (col F 14 j) (col F 15 j) h (a, d)).1 (rdN (col F 14 j) (col F 15 j) h (a, d)).2 (nI h)
  | 0, _ => by rw [nI_0]; rfl
  | h + 1, hh => by
    rw [come_r g F a d hj h (by omega), show 13 - h = (13 - (h + 1)) + 1 by omega]
    exact come_r1 g F a d _ hj (by omega)
theorem come_h (g : zF) (F : Nat → zF) (a d : Int32) (j : Nat) : ∀ c hd, c ≤ 12 → tpN a c = some hd → s_X7_comesIn_b95 g (c + 1) F (nI j) a d (nI c + (-1)) = s_X7_comesIn_b114 g 13 F (nI j) a d (nI hd) 0
  | 0, hd, _, h => by cases h
  | k + 1, hd, hc, h => by
    rw [s_X7_comesIn_b95, dec_e]
    unfold tpN at h
    by_cases hb : bt a k = true
    · rw [if_pos hb] at h
      cases h
      rw [if_neg (by rw [shr_bt (by omega), hb]; decide)]
    · rw [if_neg hb] at h
      rw [if_pos (by rw [shr_bt (by omega)]; simpa using hb), zl_e]
      exact come_h g F a d j k hd (by omega) h
theorem come_i1 (g : zF) (F : Nat → zF) (mk mx : zF) (a d : Int32) (f : Nat) {j hd i : Nat} (hj : j < 12) (hhd : hd < 12) (hi : i < 12) : s_X7_comesIn_b114 g (f + 1) (zc2 F j (inM i mk a hd) (inX i mk mx d hd)) (nI j) a d (nI hd) (nI i) = s_X7_comesIn_b114 g f (zc2 F j (inM (i + 1) mk a hd) (inX (i + 1) mk mx d hd)) (nI j) a d (nI hd) (nI (i + 1)) := by
  rw [s_X7_comesIn_b114]
  simp only [n12_le hi, if_false, ix_cl hj hi, ix_n hj hi, ix_l hj hi, or_self, zl_e, nI_s, shr_bt (show hd < 32 by omega), zc2_a _ _ _ _ hi, zc2_14 _ _ _ _ hi, zc2_15 _ _ _ _ hi, zc2_d _ _ _ _ hi, inM_at, inX_at]
  rw [inM_s, inX_s]
  by_cases hb : bt (mk i) hd = true
  · simp [hb]
  · simp [hb]
theorem come_i (g : zF) (F : Nat → zF) (a d : Int32) {j hd : Nat} (hj : j < 12) (hhd : hd < 12) : ∀ i, i ≤ 12 → s_X7_comesIn_b114 g 13 F (nI j) a d (nI hd) 0 = s_X7_comesIn_b114 g (13 - i) (zc2 F j (inM i (col F 14 j) a hd) (inX i (col F 14 j) (col F 15 j) d hd)) (nI j) a d (nI hd) (nI i)
  | 0, _ => by rw [inM_0, inX_0, nI_0, zc2_self]
  | i + 1, h => by
    rw [come_i g F a d hj hhd i (by omega), show 13 - i = (13 - (i + 1)) + 1 by omega]
    exact come_i1 g F _ _ a d _ hj hhd (by omega)
theorem cnN_cg {f f' : zF} : ∀ k, (∀ h, h < k → f h = f' h) → cnN f k = cnN f' k
  | 0, _ => rfl
  | k + 1, h => by rw [cnN, cnN, cnN_cg k (fun i hi => h i (by omega)), h k (by omega)]
theorem smN_cg {f f' : zF} : ∀ k, (∀ h, h < k → f h = f' h) → smN f k = smN f' k
  | 0, _ => rfl
  | k + 1, h => by rw [smN, smN, smN_cg k (fun i hi => h i (by omega)), h k (by omega)]
/-- the reference's own: what a mix comes to, in its columns -/
theorem come_e (g : zF) (F : Nat → zF) (a d : Int32) {j : Nat} (hj : j < 12) (hb : ∀ i, 12 ≤ i → bt (rdN (col F 14 j) (col F 15 j) 12 (a, d)).1 i = false) : s_X7_comesIn g F (nI j) a d = some (match tpN (rdN (col F 14 j) (col F 15 j) 12 (a, d)).1 12 with
    | none => (0, F)
    | some hd => if cnN (tiM (col F 14 j) (col F 15 j) a d hd) 12 = F 12 j ∧ ¬ smN (tiX (col F 14 j) (col F 15 j) a d hd) 12 = F 13 j then (1, zc2 (zu F 26 j (F 26 j + 1)) j z0 z0) else (1, zc2 F j (tiM (col F 14 j) (col F 15 j) a d hd) (tiX (col F 14 j) (col F 15 j) a d hd))) := by
  unfold s_X7_comesIn
  rw [come_r g F a d hj 12 (by omega), show 13 - 12 = 0 + 1 by rfl, s_X7_comesIn_b9]
  simp only [n12_ge, if_true]
  generalize hrd : rdN (col F 14 j) (col F 15 j) 12 (a, d) = r at hb ⊢
  cases h : tpN r.1 12 with
  | none =>
    have h0 : r.1 = 0 := by
      refine b_ext (fun i hi => ?_)
      rw [b_0]
      by_cases h12 : i < 12
      · exact tpN_none h i h12
      · exact hb i (by omega)
    rw [if_pos h0]
  | some hd =>
    obtain ⟨hhd, hbt, -⟩ := tpN_lt h
    have h0 : ¬ r.1 = 0 := fun e => by rw [e, b_0] at hbt; cases hbt
    rw [if_neg h0, ← n11_e, come_h g F r.1 r.2 j 12 hd (by omega) h, come_i g F r.1 r.2 hj hhd 12 (by omega), show 13 - 12 = 0 + 1 by rfl, s_X7_comesIn_b114]
    simp only [n12_ge, if_true, ix_cl hj hhd, ix_n hj hhd, ix_l hj hhd, or_self, zl_e, if_false, zc2_14 _ _ _ _ hhd, zc2_15 _ _ _ _ hhd, nj_cl hj, nj_n hj, nj_l hj]
    have e1 : upd (inM 12 (col F 14 j) r.1 hd) hd r.1 = tiM (col F 14 j) (col F 15 j) a d hd := by rw [tiM, hrd]
    have e2 : upd (inX 12 (col F 14 j) (col F 15 j) r.2 hd) hd r.2 = tiX (col F 14 j) (col F 15 j) a d hd := by rw [tiX, hrd]
    rw [e1, e2]
    generalize tiM (col F 14 j) (col F 15 j) a d hd = M
    generalize tiX (col F 14 j) (col F 15 j) a d hd = X
    rw [rank_e g _ hj, sumOf_e g _ hj]
    have e3 : cnN (col (zc2 F j M X) 14 j) 12 = cnN M 12 := cnN_cg 12 (fun h hh => zc2_a F j M X hh)
    have e4 : smN (col (zc2 F j M X) 15 j) 12 = smN X 12 := smN_cg 12 (fun h hh => zc2_d F j M X hh)
    simp only [zb1_s, e3, e4, zc2_o F j M X (show (12 : Nat) ≠ 14 by decide) (by decide), zc2_o F j M X (show (13 : Nat) ≠ 14 by decide) (by decide), zc2_o F j M X (show (26 : Nat) ≠ 14 by decide) (by decide)]
    rw [zc2_zu F j M X (by decide) (by decide), empty7_e g _ hj, zc2_z2]
    by_cases c1 : cnN M 12 = F 12 j
    · by_cases c2 : smN X 12 = F 13 j
      · simp [c1, c2]
      · simp [c1, c2, zb1_s]
    · simp [c1]
