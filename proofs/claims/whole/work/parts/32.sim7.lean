/-! simulation 7: programs loaded, answers about a machine -/
theorem un_nz {h : Nat} (hh : h < 12) : ¬ zShl 1 (nI h) = 0 := by
  intro e
  have h1 := shl_bt (h := h) (i := h) (by omega) (by omega)
  rw [e, b_0] at h1
  simp at h1
theorem un_ct {k : Nat} {f : zF} (hf : ∀ h, h < 12 → f h = 0) : ∀ c, c ≤ 12 → ctN (unM k f) c = if c ≤ k then c else k
  | 0, _ => by simp [ctN]
  | c + 1, hc => by
    rw [ctN, un_ct hf c (by omega)]
    by_cases l : c < k
    · have e : unM k f c = zShl 1 (nI c) := by simp [unM, l]
      rw [e, if_neg (un_nz (by omega)), if_pos (by omega), if_pos (by omega)]
    · have e : unM k f c = 0 := by simp [unM, l, hf c (by omega)]
      rw [e, if_pos rfl]
      by_cases e2 : c = k
      · subst e2; simp
      · rw [if_neg (by omega), if_neg (by omega), Nat.add_zero]
theorem un_BI {k : Nat} (hk : k ≤ 12) {f : zF} (hf : ∀ h, h < 12 → f h = 0) : BI (unM k f) := by
  intro h hh hn
  by_cases l : h < k
  · have e : unM k f h = zShl 1 (nI h) := by simp [unM, l]
    rw [e]
    refine ⟨by rw [shl_bt (by omega) (by omega)]; simp, fun i hi => ?_, fun i hi hne _ => ?_⟩
    · rcases Nat.lt_or_ge i 32 with l2 | l2
      · rw [shl_bt (by omega) l2]; exact decide_eq_false (by omega)
      · exact b_big l2
    · rw [shl_bt (by omega) (by omega)]; exact decide_eq_false hne
  · exact absurd (by simp [unM, l, hf h hh]) hn
theorem ld_r1 (g : zF) (F : Nat → zF) (to : zF) {j k i : Nat} (hj : j < 12) (hk : k ≤ 12) (hi : i < k) (h8 : g 8 = nI k) (hto : ∀ h, h < 12 → F 9 h = to h) (gM gI : zF) (fu : Nat) : s_X7_load_b59 (fu + 1) g (put F j gM (unM i z0) (unX i to z0) gI) (nI j) (nI i) = s_X7_load_b59 fu g (put F j gM (unM (i + 1) z0) (unX (i + 1) to z0) gI) (nI j) (nI (i + 1)) := by
  have hi12 : i < 12 := by omega
  rw [s_X7_load_b59, h8, if_neg (nI_ge hi (by omega))]
  simp -implicitDefEqProofs only [nj_cl hi12, nj_n hi12, nj_l hi12, if_false, ix_cl hj hi12, ix_n hj hi12, ix_l hj hi12, or_self, zl_e, nI_s, put_w14 _ _ _ _ _ _ hi12, put_w15 _ _ _ _ _ _ hi12, put_r9, hto i hi12, unM_s, unX_s]
theorem ld_r (g : zF) (F : Nat → zF) (to : zF) {j k : Nat} (hj : j < 12) (hk : k ≤ 12) (h8 : g 8 = nI k) (hto : ∀ h, h < 12 → F 9 h = to h) (gM gI : zF) : ∀ i, i ≤ k → s_X7_load_b59 13 g (put F j gM z0 z0 gI) (nI j) 0 = s_X7_load_b59 (13 - i) g (put F j gM (unM i z0) (unX i to z0) gI) (nI j) (nI i)
  | 0, _ => by rw [nI_0, Nat.sub_zero, unM_0, unX_0]
  | i + 1, hi => by
    rw [ld_r g F to hj hk h8 hto gM gI i (by omega), show 13 - i = (13 - (i + 1)) + 1 by omega]
    exact ld_r1 g F to hj hk (by omega) h8 hto gM gI _
theorem un_cg {k : Nat} {f f' : zF} (h : ∀ i, i < 12 → f i = f' i) : ∀ i, i < 12 → unM k f i = unM k f' i := fun i hi => by simp [unM, h i hi]
theorem ux_cg {k : Nat} {to f f' : zF} (h : ∀ i, i < 12 → f i = f' i) : ∀ i, i < 12 → unX k to f i = unX k to f' i := fun i hi => by simp [unX, h i hi]
theorem emp_0 (f : zF) : ∀ i, i < 12 → z0 i = emp f i := fun i hi => by simp [z0, emp, hi]
theorem load_sim {gR g : zF} (hR : RU gR g) (gD : zF) (F : Nat → zF) (to : zF) {j k : Nat} (hj : j < 12) (hk : k ≤ 12) (h8 : g 8 = nI k) (hto : ∀ h, h < 12 → F 9 h = to h) {gM gB mk gI : zF} (mx : zF) (hM : MI gM gB mk gI) {p2 : Int32} (hp : bd 9999 p2) : ∃ gM' gB' mk' mx', s_X4_keepWhole gM gB mk mx to p2 (nI k) = some (gM', gB', mk', mx') ∧ s_X7_load_b59 13 (dg g gD) (put F j (va_up (va_up gM 6 p2) 7 (nI k)) z0 z0 gI) (nI j) 0 = some (nI k, dg (va_up g 8 0) (stD gI gR gD), put F j gM' mk' mx' (stI gI gR gD (g 6))) ∧ MI gM' gB' mk' gI ∧ gB' 2 = nI k ∧ gM' 6 = p2 ∧ gM' 13 = gM 13 ∧ gM' 14 = gM 14 := by
  refine ⟨_, _, _, _, kw_e gM gB mk mx to p2 hk, ?_, ?_, rfl, rfl, rfl, rfl⟩
  · have hR2 : RU gR (va_up g 8 0) := hR
    have e6 : va_up g 8 0 6 = g 6 := rfl
    have es : smN (col (put F j (va_up (va_up gM 6 p2) 7 (nI k)) (unM k z0) (unX k to z0) gI) 15 j) 12 = smN (unX k to (emp mx)) 12 := smN_cg 12 (fun h hh => (put_15 F j _ _ _ _ hh).trans (ux_cg (emp_0 mx) h hh))
    have e7 : ∀ v, va_up (va_up (va_up gM 6 p2) 7 (nI k)) 8 v 7 = nI k := fun _ => rfl
    rw [ld_r (dg g gD) F to hj hk h8 hto _ gI k (by omega), show 13 - k = (12 - k) + 1 by omega, s_X7_load_b59, dg_8, h8, if_pos (nI_le (Nat.le_refl k) (by omega)), sumOf_e _ _ hj, zb1_s, es]
    simp -implicitDefEqProofs only [nj_n hj, nj_cl hj, nj_l hj, or_self, if_false, zl_e, put_r11, put_r12, put_r13, put_r16, put_r21, put_r27, put_r28, put_r22, put_r23, put_r24, put_r25, put_r26, put_r17, put_r18, put_r19, put_r20, put_w11, put_w12, put_w13, put_w16, put_w21, put_w27, put_w28, put_w22, put_w23, put_w24, put_w25, put_w26, put_w17, put_w18, put_w19, put_w20, dg_0, dg_1, dg_2, dg_3, dg_4, dg_5, dg_6, dg_7, dg_8, dg_29, dg_30, dg_w g gD (show 8 ≠ 0 by decide), st7 hR2 gD F hj, zb2_s, e6, e7]
    rw [put_cg F j _ _ (un_cg (emp_0 mk)) (ux_cg (emp_0 mx))]
  · obtain ⟨m1, m2, m3, m4, m5, m6, m7⟩ := hM
    refine ⟨?_, un_BI hk (emp_z mk), hp, ⟨k, hk, rfl⟩, m5, m6, m7⟩
    rw [up_ap, if_pos rfl, un_ct (emp_z mk) 12 (by omega)]
    by_cases e : 12 ≤ k
    · rw [if_pos e]; congr 1; omega
    · rw [if_neg e]
theorem ans_sim (g : zF) (F : Nat → zF) {j : Nat} (hj : j < 12) {gM gB mk gI : zF} (mx : zF) (hM : MI gM gB mk gI) (p2 : Int32) : s_X4_answer gM gB gI p2 = (if p2 = 0 then some (put F j gM mk mx gI 11 j) else (if p2 = 1 then some (put F j gM mk mx gI 12 j) else (if p2 = 2 then s_X7_rank g (put F j gM mk mx gI) (nI j) else (if p2 = 3 then (zb1 (s_X7_isWhole g (put F j gM mk mx gI) (nI j)) fun (v13 : Int32) => (if v13 = 0 then some (0) else some (1))) else (if p2 = 4 then some (put F j gM mk mx gI 16 j) else (if p2 = 5 then some (put F j gM mk mx gI 17 j) else (if p2 = 6 then some (put F j gM mk mx gI 18 j) else (if p2 = 7 then some (put F j gM mk mx gI 19 j) else (if p2 = 8 then some (put F j gM mk mx gI 20 j) else (if p2 = 9 then some (put F j gM mk mx gI 21 j) else (if p2 = 10 then some (put F j gM mk mx gI 22 j) else (if p2 = 11 then some (put F j gM mk mx gI 23 j) else (if p2 = 12 then some (put F j gM mk mx gI 24 j) else (if p2 = 13 then some (put F j gM mk mx gI 25 j) else (if p2 = 14 then some (put F j gM mk mx gI 26 j) else (if p2 = 15 then some (put F j gM mk mx gI 27 j) else (if p2 = 16 then some (put F j gM mk mx gI 28 j) else some (-1)))))))))))))))))) := by
  unfold s_X4_answer
  simp -implicitDefEqProofs only [nj_n hj, nj_cl hj, nj_l hj, or_self, if_false, zl_e, put_r11, put_r12, put_r13, put_r16, put_r21, put_r27, put_r28, put_r22, put_r23, put_r24, put_r25, put_r26, put_r17, put_r18, put_r19, put_r20, put_w11, put_w12, put_w13, put_w16, put_w21, put_w27, put_w28, put_w22, put_w23, put_w24, put_w25, put_w26, put_w17, put_w18, put_w19, put_w20, dg_0, dg_1, dg_2, dg_3, dg_4, dg_5, dg_6, dg_7, dg_8, dg_29, dg_30, rank_p g F hj, isW_sim g F hj mx hM, ← hM.1]
