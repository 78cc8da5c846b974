/-! pure part 5: the n-th of a basis, mixes, tearing, loading -/
def hN (mk : zF) : Int32 → Nat → Option Nat
  | _, 0 => none
  | r, c + 1 => if mk c = 0 then hN mk r c else if r = 0 then some c else hN mk (r + (-1)) c
theorem hN_lt (mk : zF) : ∀ c r h, hN mk r c = some h → h < c ∧ ¬ mk h = 0
  | 0, r, h, e => by cases e
  | c + 1, r, h, e => by
    unfold hN at e
    by_cases h0 : mk c = 0
    · rw [if_pos h0] at e
      have := hN_lt mk c r h e
      exact ⟨by omega, this.2⟩
    · rw [if_neg h0] at e
      by_cases r0 : r = 0
      · rw [if_pos r0] at e
        cases e
        exact ⟨by omega, h0⟩
      · rw [if_neg r0] at e
        have := hN_lt mk c _ h e
        exact ⟨by omega, this.2⟩
theorem hN_cg {mk mk' : zF} : ∀ c, (∀ i, i < c → mk i = mk' i) → ∀ r, hN mk r c = hN mk' r c
  | 0, _, _ => rfl
  | c + 1, h, r => by rw [hN, hN, h c (by omega), hN_cg c (fun i hi => h i (by omega)), hN_cg c (fun i hi => h i (by omega))]
theorem sub_z {x y : Int32} : (y = x) ↔ (x - y = 0) := by
  constructor
  · intro h; subst h; exact Int32.sub_self y
  · intro h
    have h1 := congrArg (· + y) h
    simp only [Int32.sub_add_cancel, Int32.zero_add] at h1
    exact h1.symm
theorem sub_1 (x y : Int32) : x - (y + 1) = x - y + (-1) := by
  rw [Int32.sub_eq_add_neg, Int32.sub_eq_add_neg, Int32.neg_add, Int32.add_assoc, Int32.sub_eq_add_neg]
theorem nth_r (gB mk : zF) (nth : Int32) : ∀ c pl, c ≤ 12 → s_X0_headOfNth_b5 gB mk (c + 1) nth pl (nI c + (-1)) = some (hdI (hN mk (nth - pl) c))
  | 0, pl, _ => by
    rw [s_X0_headOfNth_b5, if_pos (by decide)]
    simp [hN, hdI]
  | c + 1, pl, hc => by
    rw [s_X0_headOfNth_b5, dec_e]
    simp only [nj_n (show c < 12 by omega), nj_cl (show c < 12 by omega), nj_l (show c < 12 by omega), or_self, if_false, zl_e]
    rw [hN]
    by_cases h0 : mk c = 0
    · rw [if_pos h0, if_pos h0, nth_r gB mk nth c pl (by omega)]
    · rw [if_neg h0, if_neg h0]
      by_cases e : pl = nth
      · rw [if_pos e, if_pos (sub_z.mp e), hdI_s]
      · rw [if_neg e, if_neg (fun q => e (sub_z.mpr q)), nth_r gB mk nth c (pl + 1) (by omega), sub_1]
theorem sub_0 (x : Int32) : x - 0 = x := Int32.sub_zero x
theorem nth_e (gB mk : zF) (nth : Int32) : s_X0_headOfNth gB mk nth = some (hdI (hN mk nth 12)) := by
  have h := nth_r gB mk nth 12 0 (by omega)
  rw [n11_e, sub_0] at h
  exact h
theorem hdI_ne {h : Nat} (hh : h < 12) : ¬ nI h = -1 := fun e => nI_pos (n := h) (by omega) (by rw [e]; decide)
theorem maskN_e (gB mk : zF) (nth : Int32) : s_X0_maskOfNth gB mk nth = some (match hN mk nth 12 with | none => -1 | some h => mk h) := by
  unfold s_X0_maskOfNth
  rw [nth_e, zb1_s]
  cases h : hN mk nth 12 with
  | none => rw [hdI_n, if_pos rfl]
  | some x =>
    have hx := (hN_lt mk 12 nth x h).1
    rw [hdI_s, if_neg (hdI_ne hx)]
    simp only [nj_n hx, nj_cl hx, nj_l hx, or_self, if_false]
theorem dataN_e (gB mk mx : zF) (nth : Int32) : s_X0_dataOfNth gB mk mx nth = some (match hN mk nth 12 with | none => 0 | some h => mx h) := by
  unfold s_X0_dataOfNth
  rw [nth_e, zb1_s]
  cases h : hN mk nth 12 with
  | none => rw [hdI_n, if_pos rfl]
  | some x =>
    have hx := (hN_lt mk 12 nth x h).1
    rw [hdI_s, if_neg (hdI_ne hx)]
    simp only [nj_n hx, nj_cl hx, nj_l hx, or_self, if_false]
theorem head7_r (g : zF) (F : Nat → zF) (nth : Int32) (hn : ¬ nth < 0) {j : Nat} (hj : j < 12) : ∀ c r, c ≤ 12 → s_X7_headOf_b6 g F (c + 1) (nI j) nth r (nI c + (-1)) = some (hdI (hN (col F 14 j) r c))
  | 0, r, _ => by
    rw [s_X7_headOf_b6, if_pos (by decide)]
    simp [hN, hdI]
  | c + 1, r, hc => by
    rw [s_X7_headOf_b6, dec_e]
    have hc' : c < 12 := by omega
    simp only [nj_n hc', hn, ix_cl hj hc', ix_n hj hc', ix_l hj hc', or_self, if_false, zl_e]
    rw [hN]
    by_cases h0 : F 14 (12 * j + c) = 0
    · rw [if_pos h0, if_pos (show col F 14 j c = 0 from h0), head7_r g F nth hn hj c r (by omega)]
    · rw [if_neg h0, if_neg (show ¬ col F 14 j c = 0 from h0)]
      by_cases e : r = 0
      · rw [if_pos e, if_pos e, hdI_s]
      · rw [if_neg e, if_neg e, head7_r g F nth hn hj c _ (by omega)]
theorem head7_e (g : zF) (F : Nat → zF) (nth : Int32) {j : Nat} (hj : j < 12) : s_X7_headOf g F (nI j) nth = some (if nth < 0 then -1 else hdI (hN (col F 14 j) nth 12)) := by
  by_cases hn : nth < 0
  · rw [if_pos hn]
    unfold s_X7_headOf
    rw [s_X7_headOf_b6, if_neg (by decide), if_pos hn]
  · rw [if_neg hn]
    have h := head7_r g F nth hn hj 12 nth (by omega)
    rw [n11_e] at h
    exact h
theorem hN_neg (mk : zF) : ∀ c r h, hN mk r c = some h → ∃ k, k < c ∧ r = nI k
  | 0, r, h, e => by cases e
  | c + 1, r, h, e => by
    unfold hN at e
    by_cases h0 : mk c = 0
    · rw [if_pos h0] at e
      obtain ⟨k, h1, h2⟩ := hN_neg mk c r h e
      exact ⟨k, by omega, h2⟩
    · rw [if_neg h0] at e
      by_cases r0 : r = 0
      · exact ⟨0, by omega, by rw [r0, nI_0]⟩
      · rw [if_neg r0] at e
        obtain ⟨k, h1, h2⟩ := hN_neg mk c _ h e
        refine ⟨k + 1, by omega, ?_⟩
        have h3 := congrArg (· + 1) h2
        simp only [nI_1] at h3
        rw [← h3, Int32.add_assoc]
        simp
theorem hN_none {mk : zF} {r : Int32} (h : r < 0) : hN mk r 12 = none := by
  cases e : hN mk r 12 with
  | none => rfl
  | some x =>
    obtain ⟨k, hk, rfl⟩ := hN_neg mk 12 r x e
    exact absurd h (nI_pos (by omega))
theorem hN_some {mk : zF} : ∀ c, (∃ i, i < c ∧ ¬ mk i = 0) → ∃ h, hN mk 0 c = some h
  | 0, ⟨i, h, _⟩ => by omega
  | c + 1, ⟨i, h, h0⟩ => by
    rw [hN]
    by_cases hc : mk c = 0
    · rw [if_pos hc]
      exact hN_some c ⟨i, by
        by_cases e : i = c
        · subst e; exact absurd hc h0
        · omega, h0⟩
    · rw [if_neg hc, if_pos rfl]
      exact ⟨c, rfl⟩
def mixN (mk mx : zF) (bits : Int32) : Nat → Nat → Int32 × Int32 → Int32 × Int32
  | 0, _, p => p
  | c + 1, pl, p => if mk c = 0 then mixN mk mx bits c pl p else mixN mk mx bits c (pl + 1) (if bt bits pl = true then (p.1 ^^^ mk c, p.2 ^^^ mx c) else p)
theorem mixN_cg {mk mx mk' mx' : zF} (bits : Int32) : ∀ c, (∀ i, i < c → mk i = mk' i) → (∀ i, i < c → mx i = mx' i) → ∀ pl p, mixN mk mx bits c pl p = mixN mk' mx' bits c pl p
  | 0, _, _, _, _ => rfl
  | c + 1, h1, h2, pl, p => by
    rw [mixN, mixN, h1 c (by omega), h2 c (by omega), mixN_cg bits c (fun i hi => h1 i (by omega)) (fun i hi => h2 i (by omega)), mixN_cg bits c (fun i hi => h1 i (by omega)) (fun i hi => h2 i (by omega))]
def hmx (gH : zF) (p : Int32 × Int32) : zF := va_up (va_up gH 5 p.1) 6 p.2
theorem hmx_5 (gH : zF) (p : Int32 × Int32) : hmx gH p 5 = p.1 := rfl
theorem hmx_6 (gH : zF) (p : Int32 × Int32) : hmx gH p 6 = p.2 := rfl
theorem hmx_u (gH : zF) (p : Int32 × Int32) (x y : Int32) : va_up (va_up (hmx gH p) 5 x) 6 y = hmx gH (x, y) := by
  funext k
  simp only [hmx, up_ap]
  by_cases h6 : k = 6
  · simp [h6]
  · by_cases h5 : k = 5
    · simp [h5]
    · simp [h6, h5]
/-- what is sent where none is drawn: the first -/
def mixE (mk mx : zF) (p : Int32 × Int32) : Int32 × Int32 := if p.1 = 0 then (match hN mk 0 12 with | none => (-1, 0) | some h => (mk h, mx h)) else p
theorem mix_r (gB mk mx gH : zF) (bits : Int32) : ∀ c pl p, c + pl ≤ 12 → s_X0_mixInto_b16 gB mk mx (c + 1) (hmx gH p) bits (nI pl) (nI c + (-1)) = some (hmx gH (mixE mk mx (mixN mk mx bits c pl p)))
  | 0, pl, p, _ => by
    rw [s_X0_mixInto_b16, if_pos (by decide), hmx_5, mixN, maskN_e, dataN_e]
    unfold mixE
    by_cases h0 : p.1 = 0
    · rw [if_pos h0, if_pos h0]
      simp only [zb1_s, zl_e]
      rw [hmx_u]
      cases hN mk 0 12 <;> rfl
    · rw [if_neg h0, if_neg h0]
  | c + 1, pl, p, hc => by
    rw [s_X0_mixInto_b16, dec_e]
    have hc' : c < 12 := by omega
    simp only [nj_n hc', nj_cl hc', nj_l hc', or_self, if_false, zl_e, nI_s]
    rw [mixN, has_e bits (show pl < 32 by omega), zb1_s, mix_r gB mk mx gH bits c pl p (by omega)]
    by_cases h0 : mk c = 0
    · rw [if_pos h0, if_pos h0]
    · rw [if_neg h0, if_neg h0]
      by_cases hb : bt bits pl = true
      · rw [if_pos hb, if_neg one_ne, if_pos hb, hmx_5]
        have e : (va_up (hmx gH p) 5 (p.1 ^^^ mk c)) 6 = p.2 := rfl
        rw [e, hmx_u, mix_r gB mk mx gH bits c (pl + 1) _ (by omega)]
      · rw [if_neg hb, if_pos rfl, if_neg hb, mix_r gB mk mx gH bits c (pl + 1) _ (by omega)]
theorem mix_e (gB mk mx gH : zF) (bits : Int32) : s_X0_mixInto gB mk mx gH bits = some (hmx gH (mixE mk mx (mixN mk mx bits 12 0 (0, 0)))) := by
  have h := mix_r gB mk mx gH bits 12 0 (0, 0) (by omega)
  rw [n11_e, nI_0] at h
  exact h
def fsN (mk : zF) : Nat → Option Nat → Option Nat
  | 0, f => f
  | c + 1, f => if mk c = 0 then fsN mk c f else fsN mk c (match f with | none => some c | some x => some x)
theorem fsN_s (mk : zF) (x : Nat) : ∀ c, fsN mk c (some x) = some x
  | 0 => rfl
  | c + 1 => by
    rw [fsN]
    by_cases h : mk c = 0
    · rw [if_pos h, fsN_s mk x c]
    · rw [if_neg h]; exact fsN_s mk x c
theorem fsN_h (mk : zF) : ∀ c, fsN mk c none = hN mk 0 c
  | 0 => rfl
  | c + 1 => by
    rw [fsN, hN, fsN_h mk c]
    by_cases h : mk c = 0
    · rw [if_pos h, if_pos h]
    · rw [if_neg h, if_neg h, if_pos rfl]
      exact fsN_s mk c c
def hF (F : Nat → zF) (j : Nat) (p : Int32 × Int32) : Nat → zF := zu (zu F 36 j p.1) 37 j p.2
theorem hF_u (F : Nat → zF) (j : Nat) (p : Int32 × Int32) (x y : Int32) : zu (zu (hF F j p) 36 j x) 37 j y = hF F j (x, y) := by
  funext k i
  simp only [hF, zu_ap]
  by_cases h6 : k = 37 ∧ i = j
  · simp [h6]
  · by_cases h5 : k = 36 ∧ i = j
    · simp [h5]
    · simp [h6, h5]
theorem hF_o (F : Nat → zF) (j : Nat) (p : Int32 × Int32) {k : Nat} (h1 : k ≠ 36) (h2 : k ≠ 37) (x : Nat) : hF F j p k x = F k x := by
  simp [hF, zu_ap, h1, h2]
theorem hF_36 (F : Nat → zF) (j : Nat) (p : Int32 × Int32) : hF F j p 36 j = p.1 := by simp [hF, zu_ap]
theorem hF_37 (F : Nat → zF) (j : Nat) (p : Int32 × Int32) : hF F j p 37 j = p.2 := by simp [hF, zu_ap]
theorem shr1_bt {a : Int32} {h : Nat} (hh : h < 32) : (zShr a (nI h) &&& 1 = 1) ↔ bt a h = true := by
  constructor
  · intro e
    cases hb : bt a h with
    | true => rfl
    | false => rw [(shr_bt hh).mpr hb] at e; exact absurd e (by decide)
  · intro hb
    refine b_ext (fun i hi => ?_)
    rw [b_and, b_one]
    by_cases h0 : i = 0
    · subst h0
      rw [zShr, b_sshr h hh a (by omega), if_pos (by omega)]
      simpa using hb
    · simp [h0]
theorem hdI_sg {o : Option Nat} (ho : ∀ h, o = some h → h < 12) : (0 ≤ hdI o) ↔ ∃ h, o = some h := by
  cases o with
  | none => exact ⟨fun h => absurd h (by decide), fun ⟨h, e⟩ => by cases e⟩
  | some h => exact ⟨fun _ => ⟨h, rfl⟩, fun _ => nI_pos' (by have := ho h rfl; omega)⟩
theorem mk7_r (g : zF) (F : Nat → zF) (bits : Int32) {j : Nat} (hj : j < 12) : ∀ c pl p fs, c + pl ≤ 12 → (∀ h, fs = some h → h < 12) → (∃ h, h < 12 ∧ fsN (col F 14 j) c fs = some h) → s_X7_makeMix_b31 (c + 1) g (hF F j p) (nI j) bits (nI pl) (hdI fs) (nI c + (-1)) = some (g, hF F j (let r := mixN (col F 14 j) (col F 15 j) bits c pl p; if r.1 = 0 then (match fsN (col F 14 j) c fs with | none => (-1, 0) | some h => (col F 14 j h, col F 15 j h)) else r))
  | 0, pl, p, fs, _, hfs, hex => by
    obtain ⟨h, hh, e⟩ := hex
    have e' : fs = some h := e
    subst e'
    rw [s_X7_makeMix_b31, if_pos (by decide)]
    simp only [nj_n hj, nj_cl hj, nj_l hj, or_self, if_false, hF_36, hdI_s, ix_cl hj hh, ix_n hj hh, ix_l hj hh, zl_e, mixN, fsN]
    by_cases h0 : p.1 = 0
    · rw [if_pos h0, if_pos h0]
      have e1 : hF F j p 14 (12 * j + h) = F 14 (12 * j + h) := hF_o F j p (by decide) (by decide) _
      have e2 : zu (hF F j p) 36 j (F 14 (12 * j + h)) 15 (12 * j + h) = F 15 (12 * j + h) := by
        rw [zu_ap, if_neg (by simp), hF_o F j p (by decide) (by decide)]
      rw [e1, e2, hF_u]
      rfl
    · rw [if_neg h0, if_neg h0]
  | c + 1, pl, p, fs, hc, hfs, hex => by
    have hc' : c < 12 := by omega
    rw [s_X7_makeMix_b31, dec_e]
    have e14 : hF F j p 14 (12 * j + c) = F 14 (12 * j + c) := hF_o F j p (by decide) (by decide) _
    have e15 : zu (hF F j p) 36 j (hF F j p 36 j ^^^ F 14 (12 * j + c)) 15 (12 * j + c) = F 15 (12 * j + c) := by
      rw [zu_ap, if_neg (by simp), hF_o F j p (by decide) (by decide)]
    have e37 : zu (hF F j p) 36 j (hF F j p 36 j ^^^ F 14 (12 * j + c)) 37 j = p.2 := by
      rw [zu_ap, if_neg (by simp), hF_37]
    simp only [nj_n hc', nj_n hj, nj_cl hj, nj_l hj, or_self, if_false, ix_cl hj hc', ix_n hj hc', ix_l hj hc', zl_e, nI_s, e14, e15, e37, shr1_bt (show pl < 32 by omega)]
    rw [hF_36, hF_u]
    by_cases h0 : F 14 (12 * j + c) = 0
    · have h0' : col F 14 j c = 0 := h0
      rw [if_pos h0]
      simp only [fsN, h0', if_true] at hex
      rw [mk7_r g F bits hj c pl p fs (by omega) hfs hex]
      simp only [mixN, fsN, h0', if_true]
    · have h0' : ¬ col F 14 j c = 0 := h0
      rw [if_neg h0]
      simp only [fsN, h0', if_false] at hex
      simp only [mixN, fsN, h0', if_false]
      cases fs with
      | some x =>
        have hx := hfs x rfl
        rw [if_pos ((hdI_sg hfs).mpr ⟨x, rfl⟩)]
        by_cases hb : bt bits pl = true
        · rw [if_pos hb, if_pos hb, mk7_r g F bits hj c (pl + 1) _ (some x) (by omega) hfs hex]
          rfl
        · rw [if_neg hb, if_neg hb, mk7_r g F bits hj c (pl + 1) _ (some x) (by omega) hfs hex]
      | none =>
        rw [if_neg (fun q => by obtain ⟨h, e⟩ := (hdI_sg hfs).mp q; cases e)]
        rw [← hdI_s c]
        by_cases hb : bt bits pl = true
        · rw [if_pos hb, if_pos hb, mk7_r g F bits hj c (pl + 1) _ (some c) (by omega) (fun h e => by cases e; exact hc') hex]
          rfl
        · rw [if_neg hb, if_neg hb, mk7_r g F bits hj c (pl + 1) _ (some c) (by omega) (fun h e => by cases e; exact hc') hex]
theorem mk7_e (g : zF) (F : Nat → zF) {j : Nat} (hj : j < 12) (hex : ∃ i, i < 12 ∧ ¬ col F 14 j i = 0) : s_X7_makeMix g F (nI j) = some (va_up g 0 (drS (g 0)), hF F j (mixE (col F 14 j) (col F 15 j) (mixN (col F 14 j) (col F 15 j) (drA (g 0) 4096) 12 0 (0, 0)))) := by
  unfold s_X7_makeMix
  rw [draw7_e g F (by decide), zb2_s]
  simp only [nj_n hj, nj_cl hj, nj_l hj, or_self, if_false, zl_e]
  obtain ⟨h, e⟩ := hN_some (mk := col F 14 j) 12 hex
  have hr := mk7_r (va_up g 0 (drS (g 0))) F (drA (g 0) 4096) hj 12 0 (0, 0) none (by omega) (fun h e => by cases e) ⟨h, (hN_lt _ _ _ _ e).1, by rw [fsN_h]; exact e⟩
  rw [n11_e, nI_0, hdI_n, fsN_h] at hr
  exact hr
