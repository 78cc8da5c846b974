/-! pure part 5b -/
def mixN (mk mx : zF) (bits : Int32) : Nat → Nat → Int32 × Int32 → Int32 × Int32
  | 0, _, p => p
  | c + 1, pl, p => if mk c = 0 then mixN mk mx bits c pl p else mixN mk mx bits c (pl + 1) (if bt bits pl = true then (p.1 ^^^ mk c, p.2 ^^^ mx c) else p)
theorem mixN_cg {mk mx mk' mx' : zF} (bits : Int32) : ∀ c, (∀ i, i < c → mk i = mk' i) → (∀ i, i < c → mx i = mx' i) → ∀ pl p, mixN mk mx bits c pl p = mixN mk' mx' bits c pl p
  | 0, _, _, _, _ => rfl
  | c + 1, h1, h2, pl, p => by
    rw [mixN, mixN, h1 c (by omega), h2 c (by omega), mixN_cg bits c (fun i hi => h1 i (by omega)) (fun i hi => h2 i (by omega)), mixN_cg bits c (fun i hi => h1 i (by omega)) (fun i hi => h2 i (by omega))]
def hmx (gH : zF) (p : Int32 × Int32) : zF := va_up (va_up gH 5 p.1) 6 p.2
theorem hmx_5 (gH : zF) (p : Int32 × Int32) : hmx gH p 5 = p.1 := rfl
theorem hmx_6 (gH : zF) (p : Int32 × Int32) : hmx gH p 6 = p.2 := rfl
theorem hmx_u (gH : zF) (p : Int32 × Int32) (x y : Int32) : va_up (va_up (hmx gH p) 5 x) 6 y = hmx gH (x, y) := by
  funext k
  simp only [hmx, up_ap]
  by_cases h6 : k = 6
  · simp [h6]
  · by_cases h5 : k = 5
    · simp [h5]
    · simp [h6, h5]
/-- what is sent where none is drawn: the first -/
def mixE (mk mx : zF) (p : Int32 × Int32) : Int32 × Int32 := if p.1 = 0 then (match hN mk 0 12 with | none => (-1, 0) | some h => (mk h, mx h)) else p
theorem mix_r (gB mk mx gH : zF) (bits : Int32) : ∀ c pl p, c + pl ≤ 12 → s_X0_mixInto_b16 gB mk mx (c + 1) (hmx gH p) bits (nI pl) (nI c + (-1)) = some (hmx gH (mixE mk mx (mixN mk mx bits c pl p)))
  | 0, pl, p, _ => by
    rw [s_X0_mixInto_b16, if_pos (by decide), hmx_5, mixN, maskN_e, dataN_e]
    unfold mixE
    by_cases h0 : p.1 = 0
    · rw [if_pos h0, if_pos h0]
      simp -implicitDefEqProofs only [zb1_s, zl_e]
      rw [hmx_u]
      cases hN mk 0 12 <;> rfl
    · rw [if_neg h0, if_neg h0]
  | c + 1, pl, p, hc => by
    rw [s_X0_mixInto_b16, dec_e]
    have hc' : c < 12 := by omega
    simp -implicitDefEqProofs only [nj_n hc', nj_cl hc', nj_l hc', or_self, if_false, zl_e, nI_s]
    rw [mixN, has_e bits (show pl < 32 by omega), zb1_s, mix_r gB mk mx gH bits c pl p (by omega)]
    by_cases h0 : mk c = 0
    · rw [if_pos h0, if_pos h0]
    · rw [if_neg h0, if_neg h0]
      by_cases hb : bt bits pl = true
      · rw [if_pos hb, if_neg one_ne, if_pos hb, hmx_5]
        have e : (va_up (hmx gH p) 5 (p.1 ^^^ mk c)) 6 = p.2 := rfl
        rw [e, hmx_u, mix_r gB mk mx gH bits c (pl + 1) _ (by omega)]
      · rw [if_neg hb, if_pos rfl, if_neg hb, mix_r gB mk mx gH bits c (pl + 1) _ (by omega)]
theorem mix_e (gB mk mx gH : zF) (bits : Int32) : s_X0_mixInto gB mk mx gH bits = some (hmx gH (mixE mk mx (mixN mk mx bits 12 0 (0, 0)))) := by
  have h := mix_r gB mk mx gH bits 12 0 (0, 0) (by omega)
  rw [n11_e, nI_0] at h
  exact h
