/-! simulation 6: power lost, programs loaded -/
theorem lst (mk : zF) : ∀ c, ∃ h, h ≤ c ∧ (∀ i, i < h → mk i = 0) ∧ (h < c → ¬ mk h = 0)
  | 0 => ⟨0, by omega, fun i hi => by omega, fun h => by omega⟩
  | c + 1 => by
    obtain ⟨h, h1, h2, h3⟩ := lst mk c
    rcases Nat.lt_or_ge h c with l | l
    · exact ⟨h, by omega, h2, fun _ => h3 l⟩
    · have e : h = c := by omega
      subst e
      by_cases h0 : mk h = 0
      · refine ⟨h + 1, by omega, fun i hi => ?_, fun l => by omega⟩
        by_cases e : i = h
        · rw [e]; exact h0
        · exact h2 i (by omega)
      · exact ⟨h, by omega, h2, fun _ => h0⟩
theorem tear_r1 (gB mk mx : zF) (f : Nat) {i : Nat} (hi : i < 12) (h0 : mk i = 0) : s_X0_tearLeast_b2 (f + 1) gB mk mx (nI i) = s_X0_tearLeast_b2 f gB mk mx (nI (i + 1)) := by
  rw [s_X0_tearLeast_b2]
  simp -implicitDefEqProofs only [n12_le hi, if_false, nj_cl hi, nj_n hi, nj_l hi, or_self, zl_e, nI_s, h0, if_true]
theorem tear_r (gB mk mx : zF) {h : Nat} (hh : h ≤ 12) (hz : ∀ i, i < h → mk i = 0) : ∀ i, i ≤ h → s_X0_tearLeast_b2 13 gB mk mx 0 = s_X0_tearLeast_b2 (13 - i) gB mk mx (nI i)
  | 0, _ => by rw [nI_0, Nat.sub_zero]
  | i + 1, hi => by
    rw [tear_r gB mk mx hh hz i (by omega), show 13 - i = (13 - (i + 1)) + 1 by omega]
    exact tear_r1 gB mk mx _ (by omega) (hz i (by omega))
theorem tear_some (gB mk mx : zF) {h : Nat} (hh : h < 12) (hz : ∀ i, i < h → mk i = 0) (h0 : ¬ mk h = 0) : s_X0_tearLeast gB mk mx = some (va_up gB 2 (gB 2 - 1), upd mk h 0, upd mx h 0) := by
  unfold s_X0_tearLeast
  rw [tear_r gB mk mx (by omega) hz h (by omega), show 13 - h = (12 - h) + 1 by omega, s_X0_tearLeast_b2]
  simp -implicitDefEqProofs only [n12_le hh, if_false, nj_cl hh, nj_n hh, nj_l hh, or_self, zl_e, h0]
theorem tear_none (gB mk mx : zF) (hz : ∀ i, i < 12 → mk i = 0) : s_X0_tearLeast gB mk mx = some (gB, mk, mx) := by
  unfold s_X0_tearLeast
  rw [tear_r gB mk mx (by omega) hz 12 (by omega), show 13 - 12 = 0 + 1 by rfl, s_X0_tearLeast_b2]
  simp -implicitDefEqProofs only [n12_ge, if_true]
theorem cut_r1 (g : zF) (F : Nat → zF) (p2 : Int32) (f : Nat) {j i : Nat} (hj : j < 12) (hi : i < 12) (h0 : F 14 (12 * j + i) = 0) : s_X7_cut_b12 (f + 1) g F (nI j) p2 (nI i) = s_X7_cut_b12 f g F (nI j) p2 (nI (i + 1)) := by
  rw [s_X7_cut_b12]
  simp -implicitDefEqProofs only [n12_le hi, if_false, ix_cl hj hi, ix_n hj hi, ix_l hj hi, or_self, zl_e, nI_s, h0, if_true]
theorem cut_r (g : zF) (F : Nat → zF) (p2 : Int32) {j : Nat} (hj : j < 12) {h : Nat} (hh : h ≤ 12) (hz : ∀ i, i < h → F 14 (12 * j + i) = 0) : ∀ i, i ≤ h → s_X7_cut_b12 13 g F (nI j) p2 0 = s_X7_cut_b12 (13 - i) g F (nI j) p2 (nI i)
  | 0, _ => by rw [nI_0, Nat.sub_zero]
  | i + 1, hi => by
    rw [cut_r g F p2 hj hh hz i (by omega), show 13 - i = (13 - (i + 1)) + 1 by omega]
    exact cut_r1 g F p2 _ hj (by omega) (hz i (by omega))
theorem cut_at (g : zF) (F : Nat → zF) (p2 : Int32) {j : Nat} (hj : j < 12) {h : Nat} (hh : h ≤ 12) (hz : ∀ i, i < h → F 14 (12 * j + i) = 0) (h0 : h < 12 → ¬ F 14 (12 * j + h) = 0) : s_X7_cut_b12 13 g F (nI j) p2 0 = s_X7_cut_b38 g F (nI j) p2 (nI h) := by
  rw [cut_r g F p2 hj hh hz h (by omega), show 13 - h = (12 - h) + 1 by omega, s_X7_cut_b12]
  rcases Nat.lt_or_ge h 12 with l | l
  · simp -implicitDefEqProofs only [n12_le l, if_false, ix_cl hj l, ix_n hj l, ix_l hj l, or_self, h0 l]
  · have e : h = 12 := by omega
    subst e
    simp -implicitDefEqProofs only [n12_ge, if_true]
theorem cut_72 {gR g : zF} (hR : RU gR g) (gD : zF) (F : Nat → zF) {j : Nat} (hj : j < 12) {gM gB mk gI : zF} (mx : zF) (hM : MI gM gB mk gI) : ∃ gM' gI' gD', s_X4_losePower_b11 gR gM gB mk mx gI gD (g 6) = some (gM', gB, mk, mx, gI', gD') ∧ s_X7_cut_b72 (dg g gD) (put F j gM mk mx gI) (nI j) = some (1, dg g gD', put F j gM' mk mx gI') ∧ MI gM' gB mk gI' ∧ (gM' 6 = gM 6 ∧ gM' 13 = gM 13 ∧ gM' 14 = gM 14) := by
  obtain ⟨-, h2, -, -, ⟨a, a1, a2, ha⟩, -, -⟩ := hR
  refine ⟨va_up (va_up (va_up gM 10 (-1)) 11 0) 12 0, bgI gI gD (nI a) (g 6), drD gD, ?_, ?_, ?_, rfl, rfl, rfl⟩
  · unfold s_X4_losePower_b11
    rw [ha, bgC gI gD a1 (by omega), zb2_s]
    simp -implicitDefEqProofs only [zl_e]
  · unfold s_X7_cut_b72
    simp -implicitDefEqProofs only [nj_n hj, nj_cl hj, nj_l hj, or_self, if_false, zl_e, put_r11, put_r12, put_r13, put_r16, put_r21, put_r27, put_r28, put_r22, put_r23, put_r24, put_r25, put_r26, put_r17, put_r18, put_r19, put_r20, put_w11, put_w12, put_w13, put_w16, put_w21, put_w27, put_w28, put_w22, put_w23, put_w24, put_w25, put_w26, put_w17, put_w18, put_w19, put_w20, dg_0, dg_1, dg_2, dg_3, dg_4, dg_5, dg_6, dg_7, dg_8, dg_29, dg_30, h2, ha, bg7 g gD F hj gM mk mx gI a1 (show a ≤ 1024 by omega), zb2_s]
  · obtain ⟨m1, m2, m3, m4, m5, m6, m7⟩ := hM
    exact ⟨m1, m2, m3, m4, ⟨0, by omega, nI_0.symm⟩, Or.inl rfl, bg_SI gI gD a1 (by omega) _⟩
theorem MI_tear {gM gB mk gI : zF} (hM : MI gM gB mk gI) {h : Nat} (hh : h < 12) (h0 : ¬ mk h = 0) : MI gM (va_up gB 2 (gB 2 - 1)) (upd mk h 0) gI := by
  obtain ⟨m1, m2, m3, m4, m5, m6, m7⟩ := hM
  have hc := ct_up (f := upd mk h 0) (f' := mk) (hd := h) (by rw [upd_ap, if_pos rfl]) h0 12 hh (fun i _ hi => by rw [upd_ap, if_neg hi])
  refine ⟨?_, ?_, m3, m4, m5, m6, m7⟩
  · rw [up_ap, if_pos rfl, m1, hc, nI_pred]
  · intro i hi hn
    rw [upd_ap] at hn
    by_cases e : i = h
    · rw [if_pos e] at hn; exact absurd rfl hn
    · rw [if_neg e] at hn
      obtain ⟨b1, b2, b3⟩ := m2 i hi hn
      rw [upd_ap, if_neg e]
      refine ⟨b1, b2, fun k hk hne hn2 => ?_⟩
      rw [upd_ap] at hn2
      by_cases e2 : k = h
      · rw [if_pos e2] at hn2; exact absurd rfl hn2
      · rw [if_neg e2] at hn2; exact b3 k hk hne hn2
theorem cut_sim {gR g : zF} (hR : RU gR g) (gD : zF) (F : Nat → zF) {j : Nat} (hj : j < 12) {gM gB mk gI : zF} (mx : zF) (hM : MI gM gB mk gI) (p2 : Int32) : ∃ gM' gB' mk' mx' gI' gD', s_X4_losePower gM gB mk mx gI gR gD p2 (g 6) = some (gM', gB', mk', mx', gI', gD') ∧ s_X7_cut_b12 13 (dg g gD) (put F j gM mk mx gI) (nI j) p2 0 = some (1, dg g gD', put F j gM' mk' mx' gI') ∧ MI gM' gB' mk' gI' ∧ (gM' 6 = gM 6 ∧ gM' 13 = gM 13 ∧ gM' 14 = gM 14) := by
  obtain ⟨h, h1, h2, h3⟩ := lst mk 12
  rw [cut_at (dg g gD) (put F j gM mk mx gI) p2 hj h1 (fun i hi => by rw [put_14 _ _ _ _ _ _ (by omega)]; exact h2 i hi) (fun l => by rw [put_14 _ _ _ _ _ _ l]; exact h3 l)]
  unfold s_X4_losePower s_X7_cut_b38
  by_cases c : p2 = 0
  · obtain ⟨gM', gI', gD', o1, o2, o3, o4⟩ := cut_72 hR gD F hj mx hM
    exact ⟨gM', gB, mk, mx, gI', gD', by rw [if_pos c]; exact o1, by rw [if_pos c]; exact o2, o3, o4⟩
  · rw [if_neg c, if_neg c]
    rcases Nat.lt_or_ge h 12 with l | l
    · obtain ⟨gM', gI', gD', o1, o2, o3, o4⟩ := cut_72 hR gD F hj (upd mx h 0) (MI_tear hM l (h3 l))
      refine ⟨gM', va_up gB 2 (gB 2 - 1), upd mk h 0, upd mx h 0, gI', gD', ?_, ?_, o3, o4⟩
      · rw [tear_some gB mk mx l h2 (h3 l), zb3_s]; exact o1
      · simp -implicitDefEqProofs only [n12_le l, if_false, ix_cl hj l, ix_n hj l, ix_l hj l, or_self, zl_e, put_w14 _ _ _ _ _ _ l, put_w15 _ _ _ _ _ _ l]
        exact o2
    · have e : h = 12 := by omega
      subst e
      obtain ⟨gM', gI', gD', o1, o2, o3, o4⟩ := cut_72 hR gD F hj mx hM
      refine ⟨gM', gB, mk, mx, gI', gD', ?_, ?_, o3, o4⟩
      · rw [tear_none gB mk mx h2, zb3_s]; exact o1
      · simp -implicitDefEqProofs only [n12_ge, if_true]; exact o2
/-- unit masks -/
def unM (i : Nat) (f : zF) : zF := fun h => if h < i then zShl 1 (nI h) else f h
def unX (i : Nat) (to f : zF) : zF := fun h => if h < i then to h else f h
theorem unM_0 (f : zF) : unM 0 f = f := by funext h; simp [unM]
theorem unX_0 (to f : zF) : unX 0 to f = f := by funext h; simp [unX]
theorem unM_s (i : Nat) (f : zF) : upd (unM i f) i (zShl 1 (nI i)) = unM (i + 1) f := by
  funext h
  simp only [upd_ap, unM]
  by_cases e : h = i
  · subst e; simp
  · by_cases l : h < i
    · simp [e, l, show h < i + 1 by omega]
    · simp [e, l, show ¬ h < i + 1 by omega]
theorem unX_s (i : Nat) (to f : zF) : upd (unX i to f) i (to i) = unX (i + 1) to f := by
  funext h
  simp only [upd_ap, unX]
  by_cases e : h = i
  · subst e; simp
  · by_cases l : h < i
    · simp [e, l, show h < i + 1 by omega]
    · simp [e, l, show ¬ h < i + 1 by omega]
theorem un_bt {i : Nat} (hi : i < 12) {f : zF} (hf : ∀ h, h < 12 → f h = 0) {h : Nat} (hh : h < 12) : bt (unM i f h) i = false := by
  unfold unM
  by_cases l : h < i
  · rw [if_pos l, shl_bt (by omega) (by omega), decide_eq_false (by omega)]
  · rw [if_neg l, hf h hh, b_0]
theorem un_rd {i : Nat} (hi : i < 12) {f : zF} (hf : ∀ h, h < 12 → f h = 0) (X : zF) (d : Int32) : ∀ k, k ≤ 12 → rdN (unM i f) X k (zShl 1 (nI i), d) = (zShl 1 (nI i), d)
  | 0, _ => rfl
  | k + 1, hk => by
    rw [rdN, un_rd hi hf X d k (by omega), if_neg]
    rintro ⟨h1, h2⟩
    have h2 : bt (zShl 1 (nI i)) k = true := h2
    rw [shl_bt (by omega) (by omega)] at h2
    have e : k = i := of_decide_eq_true h2
    subst e
    exact h1 (by simp [unM, hf k (by omega)])
theorem un_tp : ∀ i, i < 12 → tpN (zShl 1 (nI i)) 12 = some i := by decide +kernel
theorem un_ti {i : Nat} (hi : i < 12) {f : zF} (hf : ∀ h, h < 12 → f h = 0) (X : zF) (d : Int32) : tiM (unM i f) X (zShl 1 (nI i)) d i = unM (i + 1) f ∧ tiX (unM i f) X (zShl 1 (nI i)) d i = upd X i d := by
  have e1 : inM 12 (unM i f) (zShl 1 (nI i)) i = unM i f := by
    funext h
    unfold inM
    rw [if_neg]
    rintro ⟨h1, h2⟩
    rw [un_bt hi hf h1] at h2
    cases h2
  have e2 : inX 12 (unM i f) X d i = X := by
    funext h
    unfold inX
    rw [if_neg]
    rintro ⟨h1, h2⟩
    rw [un_bt hi hf h1] at h2
    cases h2
  unfold tiM tiX
  rw [un_rd hi hf X d 12 (by omega)]
  dsimp only
  rw [e1, e2, unM_s]
  exact ⟨rfl, rfl⟩
theorem kw_r1 (to gM gB : zF) {k i : Nat} (hk : k ≤ 12) (hi : i < k) {f : zF} (hf : ∀ h, h < 12 → f h = 0) (x : zF) (fu : Nat) : s_X4_keepWhole_b10 to (fu + 1) gM (va_up gB 2 (nI i)) (unM i f) (unX i to x) (nI k) (nI i) = s_X4_keepWhole_b10 to fu gM (va_up gB 2 (nI (i + 1))) (unM (i + 1) f) (unX (i + 1) to x) (nI k) (nI (i + 1)) := by
  have hi12 : i < 12 := by omega
  rw [s_X4_keepWhole_b10, if_neg (nI_ge hi (by omega))]
  simp -implicitDefEqProofs only [n12_le hi12, if_false, nj_cl hi12, nj_n hi12, nj_l hi12, or_self, takeIn_e, un_rd hi12 hf _ _ 12 (Nat.le_refl 12), un_tp i hi12, zb4_s, zl_e, nI_s]
  rw [(un_ti hi12 hf _ _).1, (un_ti hi12 hf _ _).2, unX_s, up_ap, if_pos rfl, nI_s, bx_uu]
theorem kw_r (to gM gB : zF) {k : Nat} (hk : k ≤ 12) {f : zF} (hf : ∀ h, h < 12 → f h = 0) (x : zF) : ∀ i, i ≤ k → s_X4_keepWhole_b10 to 13 gM (va_up gB 2 0) f x (nI k) 0 = s_X4_keepWhole_b10 to (13 - i) gM (va_up gB 2 (nI i)) (unM i f) (unX i to x) (nI k) (nI i)
  | 0, _ => by rw [nI_0, Nat.sub_zero, unM_0, unX_0]
  | i + 1, hi => by
    rw [kw_r to gM gB hk hf x i (by omega), show 13 - i = (13 - (i + 1)) + 1 by omega]
    exact kw_r1 to gM gB hk (by omega) hf x _
theorem emp_z (f : zF) : ∀ h, h < 12 → emp f h = 0 := fun h hh => by simp [emp, hh]
theorem kw_e (gM gB mk mx to : zF) (p1 : Int32) {k : Nat} (hk : k ≤ 12) : s_X4_keepWhole gM gB mk mx to p1 (nI k) = some (va_up (va_up (va_up gM 6 p1) 7 (nI k)) 8 (smN (unX k to (emp mx)) 12), va_up gB 2 (nI k), unM k (emp mk), unX k to (emp mx)) := by
  unfold s_X4_keepWhole
  rw [keepC, zb4_s, kw_r to _ gB hk (emp_z mk) (emp mx) k (by omega), show 13 - k = (12 - k) + 1 by omega, s_X4_keepWhole_b10, if_pos (nI_le (Nat.le_refl k) (by omega))]
  unfold s_X4_keepWhole_b45
  rw [sum_e, zb1_s, zl_e, bx_uu]
