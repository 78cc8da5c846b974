/-! pure part 1: numbers, bits, arrays, draws -/
theorem zl_e {α β : Type} (x : α) (k : α → β) : zl x k = k x := rfl
theorem zb0_s {β : Type} (k : Option β) : zb0 (some ()) k = k := rfl
theorem zb1_s {α0 β : Type} (k : α0 → Option β) (x0 : α0) : zb1 (some x0) k = k x0 := rfl
theorem zb2_s {α0 α1 β : Type} (k : α0 → α1 → Option β) (x0 : α0) (x1 : α1) : zb2 (some (x0, x1)) k = k x0 x1 := rfl
theorem zb3_s {α0 α1 α2 β : Type} (k : α0 → α1 → α2 → Option β) (x0 : α0) (x1 : α1) (x2 : α2) : zb3 (some (x0, x1, x2)) k = k x0 x1 x2 := rfl
theorem zb4_s {α0 α1 α2 α3 β : Type} (k : α0 → α1 → α2 → α3 → Option β) (x0 : α0) (x1 : α1) (x2 : α2) (x3 : α3) : zb4 (some (x0, x1, x2, x3)) k = k x0 x1 x2 x3 := rfl
theorem zb5_s {α0 α1 α2 α3 α4 β : Type} (k : α0 → α1 → α2 → α3 → α4 → Option β) (x0 : α0) (x1 : α1) (x2 : α2) (x3 : α3) (x4 : α4) : zb5 (some (x0, x1, x2, x3, x4)) k = k x0 x1 x2 x3 x4 := rfl
theorem zb6_s {α0 α1 α2 α3 α4 α5 β : Type} (k : α0 → α1 → α2 → α3 → α4 → α5 → Option β) (x0 : α0) (x1 : α1) (x2 : α2) (x3 : α3) (x4 : α4) (x5 : α5) : zb6 (some (x0, x1, x2, x3, x4, x5)) k = k x0 x1 x2 x3 x4 x5 := rfl
theorem zb7_s {α0 α1 α2 α3 α4 α5 α6 β : Type} (k : α0 → α1 → α2 → α3 → α4 → α5 → α6 → Option β) (x0 : α0) (x1 : α1) (x2 : α2) (x3 : α3) (x4 : α4) (x5 : α5) (x6 : α6) : zb7 (some (x0, x1, x2, x3, x4, x5, x6)) k = k x0 x1 x2 x3 x4 x5 x6 := rfl
theorem zu_ap (F : Nat → zF) (k i : Nat) (v : Int32) (k' i' : Nat) : zu F k i v k' i' = if k' = k ∧ i' = i then v else F k' i' := by
  unfold zu va_up upd
  by_cases h : k' = k
  · subst h
    by_cases h2 : i' = i
    · simp [h2]
    · simp [h2]
  · simp [h]
theorem up_ap {α : Type} (f : Nat → α) (k : Nat) (v : α) (j : Nat) : va_up f k v j = if j = k then v else f j := rfl
theorem upd_ap (f : zF) (k : Nat) (v : Int32) (j : Nat) : upd f k v j = if j = k then v else f j := rfl
/-- a column of twelve written at once -/
def zcw (F : Nat → zF) (k j : Nat) (f : zF) : Nat → zF := fun k' i => if k' = k ∧ 12 * j ≤ i ∧ i < 12 * j + 12 then f (i - 12 * j) else F k' i
theorem zcw_ap (F : Nat → zF) (k j : Nat) (f : zF) (k' i : Nat) : zcw F k j f k' i = if k' = k ∧ 12 * j ≤ i ∧ i < 12 * j + 12 then f (i - 12 * j) else F k' i := rfl
theorem nj_cl {j : Nat} (hj : j < 12) : (nI j).toNatClampNeg = j := nI_clamp (by omega)
theorem nj_g {j : Nat} (hj : j < 12) : (nI j < 0 ∨ 12 ≤ (nI j).toNatClampNeg) = False := by
  rw [nj_cl hj]
  simp only [eq_iff_iff, iff_false]
  rintro (h | h)
  · exact nI_pos (by omega) h
  · omega
theorem ix_e (j h : Nat) : 12 * nI j + nI h = nI (12 * j + h) := by
  have h1 : (12 : Int32) = nI 12 := rfl
  rw [h1, pk_mul, nI_add]
theorem ix_cl {j h : Nat} (hj : j < 12) (hh : h < 12) : (12 * nI j + nI h).toNatClampNeg = 12 * j + h := by
  rw [ix_e]; exact nI_clamp (by omega)
theorem ix_g {j h : Nat} (hj : j < 12) (hh : h < 12) : (12 * nI j + nI h < 0 ∨ 144 ≤ (12 * nI j + nI h).toNatClampNeg) = False := by
  rw [ix_cl hj hh, ix_e]
  simp only [eq_iff_iff, iff_false]
  rintro (h1 | h1)
  · exact nI_pos (by omega) h1
  · omega
theorem nj_n {h : Nat} (hh : h < 12) : (nI h < 0) = False := by
  simp only [eq_iff_iff, iff_false]
  exact nI_pos (by omega)
theorem nj_l {h : Nat} (hh : h < 12) : (12 ≤ h) = False := by simp; omega
theorem ix_n {j h : Nat} (hj : j < 12) (hh : h < 12) : (12 * nI j + nI h < 0) = False := by
  rw [ix_e]
  simp only [eq_iff_iff, iff_false]
  exact nI_pos (by omega)
theorem ix_l {j h : Nat} (hj : j < 12) (hh : h < 12) : (144 ≤ 12 * j + h) = False := by simp; omega
theorem n12_le {h : Nat} (hh : h < 12) : ((12 : Int32) ≤ nI h) = False := by
  have h1 : (12 : Int32) = nI 12 := rfl
  rw [h1]
  simp only [eq_iff_iff, iff_false]
  exact nI_ge hh (by omega)
theorem n12_ge : ((12 : Int32) ≤ nI 12) = True := by decide
theorem nI_s (h : Nat) : nI h + 1 = nI (h + 1) := nI_1 h
-- from kit/laws/BITS.to-paste: the bits
def bt (x : Int32) (i : Nat) : Bool := x.toBitVec.getLsbD i
theorem b_ext {x y : Int32} (h : ∀ i, i < 32 → bt x i = bt y i) : x = y := Int32.toBitVec_inj.mp (BitVec.eq_of_getLsbD_eq (fun i hi => h i hi))
theorem b_or (x y : Int32) (i : Nat) : bt (x ||| y) i = (bt x i || bt y i) := by unfold bt; rw [Int32.toBitVec_or, BitVec.getLsbD_or]
theorem b_and (x y : Int32) (i : Nat) : bt (x &&& y) i = (bt x i && bt y i) := by unfold bt; rw [Int32.toBitVec_and, BitVec.getLsbD_and]
theorem b_xor (x y : Int32) (i : Nat) : bt (x ^^^ y) i = (bt x i ^^ bt y i) := by unfold bt; rw [Int32.toBitVec_xor, BitVec.getLsbD_xor]
theorem b_big {x : Int32} {i : Nat} (h : 32 ≤ i) : bt x i = false := BitVec.getLsbD_of_ge _ _ h
theorem b_255 (i : Nat) : bt 255 i = decide (i < 8) := by
  rcases Nat.lt_or_ge i 32 with h | h
  · exact (by decide +kernel : ∀ i, i < 32 → bt 255 i = decide (i < 8)) i h
  · rw [b_big h, decide_eq_false (by omega)]
theorem b_65535 (i : Nat) : bt 65535 i = decide (i < 16) := by
  rcases Nat.lt_or_ge i 32 with h | h
  · exact (by decide +kernel : ∀ i, i < 32 → bt 65535 i = decide (i < 16)) i h
  · rw [b_big h, decide_eq_false (by omega)]
theorem b_m1 : ∀ i, i < 32 → bt (-1) i = true := by decide +kernel
theorem b_0 (i : Nat) : bt 0 i = false := BitVec.getLsbD_zero
theorem s_l : ∀ n, n < 32 → ((nI n &&& 31).toBitVec.smod 32).toNat = n := by decide +kernel
theorem s_u : ∀ n, n < 32 → (((nI n).toUInt32 &&& Int32.toUInt32 31).toBitVec % 32).toNat = n := by decide +kernel
theorem b_shl (n : Nat) (hn : n < 32) (x : Int32) {i : Nat} (hi : i < 32) : bt (x <<< (nI n &&& 31)) i = (decide (n ≤ i) && bt x (i - n)) := by
  unfold bt
  rw [Int32.toBitVec_shiftLeft]
  show (x.toBitVec <<< ((nI n &&& 31).toBitVec.smod 32).toNat).getLsbD i = _
  rw [s_l n hn, BitVec.getLsbD_shiftLeft]
  rcases Nat.lt_or_ge i n with h | h
  · simp [h, Nat.not_le.mpr h]
  · simp [hi, h, Nat.not_lt.mpr h]
theorem b_ushr (n : Nat) (hn : n < 32) (x : Int32) (i : Nat) : bt ((x.toUInt32 >>> ((nI n).toUInt32 &&& Int32.toUInt32 31)).toInt32) i = bt x (n + i) := by
  show (x.toUInt32 >>> ((nI n).toUInt32 &&& Int32.toUInt32 31)).toBitVec.getLsbD i = x.toUInt32.toBitVec.getLsbD (n + i)
  rw [UInt32.toBitVec_shiftRight]
  show (x.toUInt32.toBitVec >>> (((nI n).toUInt32 &&& Int32.toUInt32 31).toBitVec % 32).toNat).getLsbD i = _
  rw [s_u n hn, BitVec.getLsbD_ushiftRight]
theorem b_sshr (n : Nat) (hn : n < 32) (x : Int32) {i : Nat} (hi : i < 32) : bt (x >>> (nI n &&& 31)) i = if n + i < 32 then bt x (n + i) else bt x 31 := by
  unfold bt
  rw [Int32.toBitVec_shiftRight]
  show (x.toBitVec.sshiftRight ((nI n &&& 31).toBitVec.smod 32).toNat).getLsbD i = _
  rw [s_l n hn, BitVec.getLsbD_sshiftRight, BitVec.msb_eq_getLsbD_last]
  simp [hi]
-- end of the pasted rows
theorem b_one (i : Nat) : bt 1 i = decide (i = 0) := by
  rcases Nat.lt_or_ge i 32 with h | h
  · exact (by decide +kernel : ∀ i, i < 32 → bt 1 i = decide (i = 0)) i h
  · rw [b_big h, decide_eq_false (by omega)]
theorem and1_bt (x : Int32) : (x &&& 1 = 0) ↔ bt x 0 = false := by
  constructor
  · intro h
    have h1 := congrArg (fun y : Int32 => bt y 0) h
    simp only [b_and, b_one, b_0] at h1
    simpa using h1
  · intro h
    refine b_ext (fun i hi => ?_)
    rw [b_and, b_one, b_0]
    by_cases h0 : i = 0
    · subst h0; simp [h]
    · simp [h0]
theorem shr_bt {a : Int32} {h : Nat} (hh : h < 32) : (zShr a (nI h) &&& 1 = 0) ↔ bt a h = false := by
  rw [and1_bt, zShr, b_sshr h hh a (by omega)]
  simp [hh]
theorem usr_bt {a : Int32} {h : Nat} (hh : h < 32) : (zUsr a (nI h) &&& 1 = 0) ↔ bt a h = false := by
  rw [and1_bt, zUsr, b_ushr h hh a 0]
  simp
theorem has_e (a : Int32) {h : Nat} (hh : h < 32) : s_X0_has a (nI h) = some (if bt a h = true then 1 else 0) := by
  unfold s_X0_has
  by_cases hb : bt a h = true
  · rw [if_neg (by rw [usr_bt hh, hb]; decide), if_pos hb]
  · rw [if_pos (by rw [usr_bt hh]; simpa using hb), if_neg hb]
theorem shl_bt {h i : Nat} (hh : h < 32) (hi : i < 32) : bt (zShl 1 (nI h)) i = decide (i = h) := by
  rw [zShl, b_shl h hh 1 hi, b_one]
  by_cases e : i = h
  · subst e; simp
  · by_cases l : h ≤ i
    · have : ¬ (i - h = 0) := by omega
      simp [e, l, this]
    · simp [e, l]
/-- draws -/
def drS (s : Int32) : Int32 := s * 1103515245 + 12345
def drA (s m : Int32) : Int32 := zRm (zUsr (drS s) 16) m
theorem draw7_e (g : zF) (F : Nat → zF) {m : Int32} (hm : ¬ m = 0) : s_X7_draw g F m = some (drA (g 0) m, va_up g 0 (drS (g 0))) := by
  simp [s_X7_draw, zl, hm, drA, drS, va_up]
theorem below_e (g : zF) {m : Int32} (h1 : 1 ≤ m) (hm : ¬ m = 0) : s_X1_below g m = some (drA (g 0) m, va_up g 0 (drS (g 0))) := by
  simp [s_X1_below, zl, hm, h1, drA, drS, va_up]
theorem n1_le {m : Nat} (h : 1 ≤ m) (hm : m < 2 ^ 31) : (1 : Int32) ≤ nI m := nI_le (a := 1) h hm
theorem half_e {sp : Nat} (h : sp < 2 ^ 30) : nI sp - nI sp / 2 = nI (sp - sp / 2) := by
  have h2 : (2 : Int32) = nI 2 := rfl
  rw [h2, pk_div (by omega) (by omega) (by omega), pk_sub (by omega)]
