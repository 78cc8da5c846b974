/-! pure part 5c -/
def fsN (mk : zF) : Nat → Option Nat → Option Nat
  | 0, f => f
  | c + 1, f => if mk c = 0 then fsN mk c f else fsN mk c (match f with | none => some c | some x => some x)
theorem fsN_s (mk : zF) (x : Nat) : ∀ c, fsN mk c (some x) = some x
  | 0 => rfl
  | c + 1 => by
    rw [fsN]
    by_cases h : mk c = 0
    · rw [if_pos h, fsN_s mk x c]
    · rw [if_neg h]; exact fsN_s mk x c
theorem fsN_h (mk : zF) : ∀ c, fsN mk c none = hN mk 0 c
  | 0 => rfl
  | c + 1 => by
    rw [fsN, hN, fsN_h mk c]
    by_cases h : mk c = 0
    · rw [if_pos h, if_pos h]
    · rw [if_neg h, if_neg h, if_pos rfl]
      exact fsN_s mk c c
def hF (F : Nat → zF) (j : Nat) (p : Int32 × Int32) : Nat → zF := zu (zu F 36 j p.1) 37 j p.2
theorem hF_u (F : Nat → zF) (j : Nat) (p : Int32 × Int32) (x y : Int32) : zu (zu (hF F j p) 36 j x) 37 j y = hF F j (x, y) := by
  funext k i
  simp only [hF, zu_ap]
  by_cases h6 : k = 37 ∧ i = j
  · simp [h6]
  · by_cases h5 : k = 36 ∧ i = j
    · simp [h5]
    · simp [h6, h5]
theorem hF_o (F : Nat → zF) (j : Nat) (p : Int32 × Int32) {k : Nat} (h1 : k ≠ 36) (h2 : k ≠ 37) (x : Nat) : hF F j p k x = F k x := by
  simp [hF, zu_ap, h1, h2]
theorem hF_36 (F : Nat → zF) (j : Nat) (p : Int32 × Int32) : hF F j p 36 j = p.1 := by simp [hF, zu_ap]
theorem hF_37 (F : Nat → zF) (j : Nat) (p : Int32 × Int32) : hF F j p 37 j = p.2 := by simp [hF, zu_ap]
theorem shr1_bt {a : Int32} {h : Nat} (hh : h < 32) : (zShr a (nI h) &&& 1 = 1) ↔ bt a h = true := by
  constructor
  · intro e
    cases hb : bt a h with
    | true => rfl
    | false => rw [(shr_bt hh).mpr hb] at e; exact absurd e (by decide)
  · intro hb
    refine b_ext (fun i hi => ?_)
    rw [b_and, b_one]
    by_cases h0 : i = 0
    · subst h0
      rw [zShr, b_sshr h hh a (by omega), if_pos (by omega)]
      simpa using hb
    · simp [h0]
theorem hdI_sg {o : Option Nat} (ho : ∀ h, o = some h → h < 12) : (0 ≤ hdI o) ↔ ∃ h, o = some h := by
  cases o with
  | none => exact ⟨fun h => absurd h (by decide), fun ⟨h, e⟩ => by cases e⟩
  | some h => exact ⟨fun _ => ⟨h, rfl⟩, fun _ => nI_pos' (by have := ho h rfl; omega)⟩
theorem fsN_p {mk : zF} {c : Nat} {f : Option Nat} (h : mk c = 0) : fsN mk (c + 1) f = fsN mk c f := by
  cases f <;> rw [fsN, if_pos h]
theorem fsN_q {mk : zF} {c : Nat} {f : Option Nat} (h : ¬ mk c = 0) : fsN mk (c + 1) f = fsN mk c (match f with | none => some c | some x => some x) := by
  cases f <;> rw [fsN, if_neg h]
def mxR (mk mx : zF) (r : Int32 × Int32) (o : Option Nat) : Int32 × Int32 := if r.1 = 0 then (match o with | none => (-1, 0) | some h => (mk h, mx h)) else r
theorem mxR_z {mk mx : zF} {r : Int32 × Int32} {h : Nat} (h0 : r.1 = 0) : mxR mk mx r (some h) = (mk h, mx h) := by unfold mxR; rw [if_pos h0]
theorem mxR_n {mk mx : zF} {r : Int32 × Int32} {o : Option Nat} (h0 : ¬ r.1 = 0) : mxR mk mx r o = r := by unfold mxR; rw [if_neg h0]
theorem mk7_r (g : zF) (F : Nat → zF) (bits : Int32) {j : Nat} (hj : j < 12) : ∀ c pl p fs, c + pl ≤ 12 → (∀ h, fs = some h → h < 12) → (∃ h, h < 12 ∧ fsN (col F 14 j) c fs = some h) → s_X7_makeMix_b31 (c + 1) g (hF F j p) (nI j) bits (nI pl) (hdI fs) (nI c + (-1)) = some (g, hF F j (mxR (col F 14 j) (col F 15 j) (mixN (col F 14 j) (col F 15 j) bits c pl p) (fsN (col F 14 j) c fs)))
  | 0, pl, p, fs, _, hfs, hex => by
    obtain ⟨h, hh, e⟩ := hex
    have e' : fs = some h := e
    subst e'
    rw [s_X7_makeMix_b31, if_pos (by decide), mixN, fsN]
    simp -implicitDefEqProofs only [nj_n hj, nj_cl hj, nj_l hj, or_self, if_false, hF_36, hdI_s, ix_cl hj hh, ix_n hj hh, ix_l hj hh, zl_e]
    by_cases h0 : p.1 = 0
    · rw [if_pos h0, mxR_z h0]
      have e1 : hF F j p 14 (12 * j + h) = F 14 (12 * j + h) := hF_o F j p (by decide) (by decide) _
      have e2 : zu (hF F j p) 36 j (F 14 (12 * j + h)) 15 (12 * j + h) = F 15 (12 * j + h) := by
        rw [zu_ap, if_neg (by simp), hF_o F j p (by decide) (by decide)]
      rw [e1, e2, hF_u]
      rfl
    · rw [if_neg h0, mxR_n h0]
  | c + 1, pl, p, fs, hc, hfs, hex => by
    have hc' : c < 12 := by omega
    rw [s_X7_makeMix_b31, dec_e]
    have e14 : hF F j p 14 (12 * j + c) = F 14 (12 * j + c) := hF_o F j p (by decide) (by decide) _
    have e15 : zu (hF F j p) 36 j (hF F j p 36 j ^^^ F 14 (12 * j + c)) 15 (12 * j + c) = F 15 (12 * j + c) := by
      rw [zu_ap, if_neg (by simp), hF_o F j p (by decide) (by decide)]
    have e37 : zu (hF F j p) 36 j (hF F j p 36 j ^^^ F 14 (12 * j + c)) 37 j = p.2 := by
      rw [zu_ap, if_neg (by simp), hF_37]
    simp -implicitDefEqProofs only [nj_n hc', nj_n hj, nj_cl hj, nj_l hj, or_self, if_false, ix_cl hj hc', ix_n hj hc', ix_l hj hc', zl_e, nI_s, e14, e15, e37, shr1_bt (show pl < 32 by omega)]
    rw [hF_36, hF_u]
    by_cases h0 : F 14 (12 * j + c) = 0
    · have h0' : col F 14 j c = 0 := h0
      obtain ⟨x0, x1, x2⟩ := hex
      rw [fsN_p h0'] at x2
      rw [if_pos h0, fsN_p h0', mixN, if_pos h0']
      rw [mk7_r g F bits hj c pl p fs (by omega) hfs ⟨x0, x1, x2⟩]
    · have h0' : ¬ col F 14 j c = 0 := h0
      obtain ⟨x0, x1, x2⟩ := hex
      rw [fsN_q h0'] at x2
      rw [if_neg h0, fsN_q h0', mixN, if_neg h0']
      cases fs with
      | some x =>
        have hx := hfs x rfl
        have hex : ∃ h, h < 12 ∧ fsN (col F 14 j) c (some x) = some h := ⟨x0, x1, x2⟩
        rw [if_pos ((hdI_sg hfs).mpr ⟨x, rfl⟩)]
        by_cases hb : bt bits pl = true
        · have hm := mk7_r g F bits hj c (pl + 1) (p.1 ^^^ F 14 (12 * j + c), p.2 ^^^ F 15 (12 * j + c)) (some x) (by omega) hfs hex
          rw [if_pos hb, if_pos hb, hm]
          rfl
        · have hm := mk7_r g F bits hj c (pl + 1) p (some x) (by omega) hfs hex
          rw [if_neg hb, if_neg hb, hm]
      | none =>
        have hex : ∃ h, h < 12 ∧ fsN (col F 14 j) c (some c) = some h := ⟨x0, x1, x2⟩
        rw [if_neg (fun q => by obtain ⟨h, e⟩ := (hdI_sg hfs).mp q; cases e)]
        by_cases hb : bt bits pl = true
        · have hm := mk7_r g F bits hj c (pl + 1) (p.1 ^^^ F 14 (12 * j + c), p.2 ^^^ F 15 (12 * j + c)) (some c) (by omega) (fun h e => by cases e; exact hc') hex
          rw [hdI_s] at hm
          rw [if_pos hb, if_pos hb, hm]
          rfl
        · have hm := mk7_r g F bits hj c (pl + 1) p (some c) (by omega) (fun h e => by cases e; exact hc') hex
          rw [hdI_s] at hm
          rw [if_neg hb, if_neg hb, hm]
theorem mxR_E (mk mx : zF) (p : Int32 × Int32) : mixE mk mx p = mxR mk mx p (hN mk 0 12) := rfl
theorem mk7_e (g : zF) (F : Nat → zF) {j : Nat} (hj : j < 12) (hex : ∃ i, i < 12 ∧ ¬ col F 14 j i = 0) : s_X7_makeMix g F (nI j) = some (va_up g 0 (drS (g 0)), hF F j (mixE (col F 14 j) (col F 15 j) (mixN (col F 14 j) (col F 15 j) (drA (g 0) 4096) 12 0 (0, 0)))) := by
  unfold s_X7_makeMix
  rw [draw7_e g F (by decide), zb2_s]
  simp -implicitDefEqProofs only [nj_n hj, nj_cl hj, nj_l hj, or_self, if_false, zl_e]
  obtain ⟨h, e⟩ := hN_some (mk := col F 14 j) 12 hex
  have hr := mk7_r (va_up g 0 (drS (g 0))) F (drA (g 0) 4096) hj 12 0 (0, 0) none (by omega) (fun h e => by cases e) ⟨h, (hN_lt _ _ _ _ e).1, by rw [fsN_h]; exact e⟩
  rw [n11_e, nI_0, hdI_n, fsN_h, ← mxR_E] at hr
  exact hr
