/-! pure part 2: the basis -/
def rdN (mk mx : zF) : Nat → Int32 × Int32 → Int32 × Int32
  | 0, p => p
  | k + 1, p => if ¬ mk k = 0 ∧ bt (rdN mk mx k p).1 k = true then ((rdN mk mx k p).1 ^^^ mk k, (rdN mk mx k p).2 ^^^ mx k) else rdN mk mx k p
def tpN (a : Int32) : Nat → Option Nat
  | 0 => none
  | k + 1 => if bt a k = true then some k else tpN a k
def hdI (o : Option Nat) : Int32 := match o with | none => -1 | some h => nI h
def inM (i : Nat) (mk : zF) (a : Int32) (hd : Nat) : zF := fun h => if h < i ∧ bt (mk h) hd = true then mk h ^^^ a else mk h
def inX (i : Nat) (mk mx : zF) (d : Int32) (hd : Nat) : zF := fun h => if h < i ∧ bt (mk h) hd = true then mx h ^^^ d else mx h
def cnN (f : zF) : Nat → Int32
  | 0 => 0
  | k + 1 => cnN f k + (if f k = 0 then 0 else 1)
def smN (f : zF) : Nat → Int32
  | 0 => 0
  | k + 1 => smN f k + f k * (nI k + 1)
theorem tpN_lt {a : Int32} : ∀ {k h : Nat}, tpN a k = some h → h < k ∧ bt a h = true ∧ ∀ i, h < i → i < k → bt a i = false
  | 0, h, e => by cases e
  | k + 1, h, e => by
    unfold tpN at e
    by_cases hb : bt a k = true
    · rw [if_pos hb] at e
      cases e
      exact ⟨by omega, hb, fun i h1 h2 => by omega⟩
    · rw [if_neg hb] at e
      obtain ⟨h1, h2, h3⟩ := tpN_lt e
      refine ⟨by omega, h2, fun i h4 h5 => ?_⟩
      by_cases e2 : i = k
      · subst e2; simpa using hb
      · exact h3 i h4 (by omega)
theorem tpN_none {a : Int32} : ∀ {k : Nat}, tpN a k = none → ∀ i, i < k → bt a i = false
  | 0, _, i, h => by omega
  | k + 1, e, i, h => by
    unfold tpN at e
    by_cases hb : bt a k = true
    · rw [if_pos hb] at e; cases e
    · rw [if_neg hb] at e
      by_cases e2 : i = k
      · subst e2; simpa using hb
      · exact tpN_none e i (by omega)
theorem dec_e (k : Nat) : nI (k + 1) + (-1) = nI k := pk_m1 k
theorem one_ne : ¬ (1 : Int32) = 0 := by decide
theorem hdI_s (h : Nat) : hdI (some h) = nI h := rfl
theorem hdI_n : hdI none = -1 := rfl
theorem headOf_run (a : Int32) : ∀ c, c ≤ 12 → s_X0_headOf_b3 (c + 1) a (nI c + (-1)) = some (hdI (tpN a c))
  | 0, _ => by
    rw [s_X0_headOf_b3, if_pos (by decide)]
    simp [tpN, hdI]
  | k + 1, h => by
    rw [s_X0_headOf_b3, dec_e, if_neg (nI_pos (by omega)), has_e a (by omega)]
    rw [zb1_s]
    by_cases hb : bt a k = true
    · rw [if_pos hb, if_neg one_ne]
      simp [tpN, hb, hdI]
    · rw [if_neg hb, if_pos rfl, zl_e, headOf_run a k (by omega)]
      simp [tpN, hb]
theorem n11_e : nI 12 + (-1) = 11 := by decide
theorem headOf_e (a : Int32) : s_X0_headOf a = some (hdI (tpN a 12)) := by
  have h := headOf_run a 12 (by omega)
  rw [n11_e] at h
  exact h
theorem takeIn_r1 (gB mk mx : zF) (a d : Int32) (f : Nat) {h : Nat} (hh : h < 12) : s_X0_takeIn_b8 (f + 1) gB mk mx (rdN mk mx h (a, d)).1 (rdN mk mx h (a, d)).2 (nI h) = s_X0_takeIn_b8 f gB mk mx (rdN mk mx (h + 1) (a, d)).1 (rdN mk mx (h + 1) (a, d)).2 (nI (h + 1)) := by
  rw [s_X0_takeIn_b8]
  simp only [n12_le hh, if_false, nj_cl hh, nj_n hh, nj_l hh, or_self, zl, nI_s]
  by_cases h0 : mk h = 0
  · rw [if_pos h0]
    simp [rdN, h0]
  · rw [if_neg h0, has_e _ (by omega)]
    by_cases hb : bt (rdN mk mx h (a, d)).1 h = true
    · simp [zb1, hb, rdN, h0]
    · simp [zb1, hb, rdN]
theorem takeIn_r (gB mk mx : zF) (a d : Int32) : ∀ h, h ≤ 12 → s_X0_takeIn_b8 13 gB mk mx a d 0 = s_X0_takeIn_b8 (13 - h) gB mk mx (rdN mk mx h (a, d)).1 (rdN mk mx h (a, d)).2 (nI h)
  | 0, _ => by rw [nI_0]; rfl
  | h + 1, hh => by
    rw [takeIn_r gB mk mx a d h (by omega), show 13 - h = (13 - (h + 1)) + 1 by omega]
    exact takeIn_r1 gB mk mx a d _ (by omega)
theorem inM_0 (mk : zF) (a : Int32) (hd : Nat) : inM 0 mk a hd = mk := by funext h; simp [inM]
theorem inX_0 (mk mx : zF) (d : Int32) (hd : Nat) : inX 0 mk mx d hd = mx := by funext h; simp [inX]
theorem inM_s (i : Nat) (mk : zF) (a : Int32) (hd : Nat) : inM (i + 1) mk a hd = if bt (mk i) hd = true then upd (inM i mk a hd) i (mk i ^^^ a) else inM i mk a hd := by
  funext h
  by_cases hb : bt (mk i) hd = true
  · rw [if_pos hb, upd_ap]
    by_cases e : h = i
    · subst e; simp [inM, hb]
    · have : (h < i + 1) = (h < i) := by simp; omega
      simp [inM, e, this]
  · rw [if_neg hb]
    by_cases e : h = i
    · subst e; simp [inM, hb]
    · have : (h < i + 1) = (h < i) := by simp; omega
      simp [inM, this]
theorem inX_s (i : Nat) (mk mx : zF) (d : Int32) (hd : Nat) : inX (i + 1) mk mx d hd = if bt (mk i) hd = true then upd (inX i mk mx d hd) i (mx i ^^^ d) else inX i mk mx d hd := by
  funext h
  by_cases hb : bt (mk i) hd = true
  · rw [if_pos hb, upd_ap]
    by_cases e : h = i
    · subst e; simp [inX, hb]
    · have : (h < i + 1) = (h < i) := by simp; omega
      simp [inX, e, this]
  · rw [if_neg hb]
    by_cases e : h = i
    · subst e; simp [inX, hb]
    · have : (h < i + 1) = (h < i) := by simp; omega
      simp [inX, this]
theorem inM_at (i : Nat) (mk : zF) (a : Int32) (hd : Nat) : inM i mk a hd i = mk i := by simp [inM]
theorem inX_at (i : Nat) (mk mx : zF) (d : Int32) (hd : Nat) : inX i mk mx d hd i = mx i := by simp [inX]
theorem takeIn_i1 (gB mk mx : zF) (a d : Int32) (f : Nat) {hd i : Nat} (hhd : hd < 12) (hi : i < 12) : s_X0_takeIn_b79 (f + 1) gB (inM i mk a hd) (inX i mk mx d hd) a d (nI hd) (nI i) = s_X0_takeIn_b79 f gB (inM (i + 1) mk a hd) (inX (i + 1) mk mx d hd) a d (nI hd) (nI (i + 1)) := by
  rw [s_X0_takeIn_b79]
  simp only [n12_le hi, if_false, nj_cl hi, nj_n hi, nj_l hi, or_self, zl, nI_s, inM_at, inX_at]
  rw [has_e _ (by omega), inM_s, inX_s]
  by_cases hb : bt (mk i) hd = true
  · simp [zb1, hb]
  · simp [zb1, hb]
theorem takeIn_i (gB mk mx : zF) (a d : Int32) {hd : Nat} (hhd : hd < 12) : ∀ i, i ≤ 12 → s_X0_takeIn_b79 13 gB mk mx a d (nI hd) 0 = s_X0_takeIn_b79 (13 - i) gB (inM i mk a hd) (inX i mk mx d hd) a d (nI hd) (nI i)
  | 0, _ => by rw [inM_0, inX_0, nI_0]
  | i + 1, h => by
    rw [takeIn_i gB mk mx a d hhd i (by omega), show 13 - i = (13 - (i + 1)) + 1 by omega]
    exact takeIn_i1 gB mk mx a d _ hhd (by omega)
/-- what comes of a mix: none, or its head, the rest, the new rows -/
def tiM (mk mx : zF) (a d : Int32) (hd : Nat) : zF := upd (inM 12 mk (rdN mk mx 12 (a, d)).1 hd) hd (rdN mk mx 12 (a, d)).1
def tiX (mk mx : zF) (a d : Int32) (hd : Nat) : zF := upd (inX 12 mk mx (rdN mk mx 12 (a, d)).2 hd) hd (rdN mk mx 12 (a, d)).2
theorem takeIn_e (gB mk mx : zF) (a d : Int32) : s_X0_takeIn gB mk mx a d = some (match tpN (rdN mk mx 12 (a, d)).1 12 with | none => (0, gB, mk, mx) | some hd => (1, va_up gB 2 (gB 2 + 1), tiM mk mx a d hd, tiX mk mx a d hd)) := by
  unfold s_X0_takeIn
  rw [takeIn_r gB mk mx a d 12 (by omega), show 13 - 12 = 0 + 1 by rfl, s_X0_takeIn_b8]
  simp only [n12_ge, if_true, headOf_e]
  cases h : tpN (rdN mk mx 12 (a, d)).1 12 with
  | none => rw [zb1_s, hdI_n, if_pos rfl]
  | some hd =>
    have hhd := (tpN_lt h).1
    have hne : ¬ nI hd = -1 := fun e => nI_pos (n := hd) (by omega) (by rw [e]; decide)
    rw [zb1_s, hdI_s, if_neg hne, takeIn_i gB mk mx _ _ hhd 12 (by omega), show 13 - 12 = 0 + 1 by rfl, s_X0_takeIn_b79]
    simp only [n12_ge, if_true, nj_cl hhd, nj_n hhd, nj_l hhd, or_self, zl, if_false]
    rfl
theorem fill_r1 (f : zF) (x : Int32) (N fu : Nat) {i : Nat} (hN : N < 2 ^ 31) (hi : i < N) : s_J7_fill_53178_b5 N (fu + 1) (fun h => if h < i then x else f h) x (nI i) (nI N) = s_J7_fill_53178_b5 N fu (fun h => if h < i + 1 then x else f h) x (nI (i + 1)) (nI N) := by
  rw [s_J7_fill_53178_b5, if_neg (nI_ge hi hN)]
  have hg : ¬ (nI i < 0 ∨ N ≤ (nI i).toNatClampNeg) := nI_in hi hN
  rw [if_neg hg, nI_clamp (by omega)]
  simp only [zl, nI_s]
  congr 1
  funext h
  rw [upd_ap]
  by_cases e : h = i
  · subst e; simp
  · have : (h < i + 1) = (h < i) := by simp; omega
    simp [e, this]
theorem fill_r (f : zF) (x : Int32) (N : Nat) (hN : N < 2 ^ 31) : ∀ i, i ≤ N → s_J7_fill_53178_b5 N (N + 1) f x 0 (nI N) = s_J7_fill_53178_b5 N (N + 1 - i) (fun h => if h < i then x else f h) x (nI i) (nI N)
  | 0, _ => by simp [nI_0]
  | i + 1, h => by
    rw [fill_r f x N hN i (by omega), show N + 1 - i = (N + 1 - (i + 1)) + 1 by omega]
    exact fill_r1 f x N _ hN (by omega)
theorem fill_e (f : zF) (x : Int32) (N : Nat) (hN : N < 2 ^ 31) : s_J7_fill_53178 f N x = some (fun h => if h < N then x else f h) := by
  unfold s_J7_fill_53178
  simp only [zl]
  rw [fill_r f x N hN N (Nat.le_refl _), show N + 1 - N = 0 + 1 by omega, s_J7_fill_53178_b5, if_pos (nI_le (Nat.le_refl _) hN)]
def emp (f : zF) : zF := fun h => if h < 12 then 0 else f h
theorem empty_e (gB mk mx : zF) : s_X0_empty gB mk mx = some (va_up gB 2 0, emp mk, emp mx) := by
  unfold s_X0_empty
  rw [fill_e mk 0 12 (by omega), fill_e mx 0 12 (by omega)]
  rfl
theorem sum_r1 (gB mx : zF) (f : Nat) {h : Nat} (hh : h < 12) : s_X0_sumOfPieces_b4 gB mx (f + 1) (smN mx h) (nI h) = s_X0_sumOfPieces_b4 gB mx f (smN mx (h + 1)) (nI (h + 1)) := by
  rw [s_X0_sumOfPieces_b4]
  simp only [n12_le hh, if_false, nj_cl hh, nj_n hh, nj_l hh, or_self, zl, nI_s, smN]
theorem sum_r (gB mx : zF) : ∀ h, h ≤ 12 → s_X0_sumOfPieces_b4 gB mx 13 0 0 = s_X0_sumOfPieces_b4 gB mx (13 - h) (smN mx h) (nI h)
  | 0, _ => by rw [nI_0]; rfl
  | h + 1, hh => by
    rw [sum_r gB mx h (by omega), show 13 - h = (13 - (h + 1)) + 1 by omega]
    exact sum_r1 gB mx _ (by omega)
theorem sum_e (gB mx : zF) : s_X0_sumOfPieces gB mx = some (smN mx 12) := by
  unfold s_X0_sumOfPieces
  rw [sum_r gB mx 12 (by omega), show 13 - 12 = 0 + 1 by rfl, s_X0_sumOfPieces_b4]
  simp only [n12_ge, if_true]
