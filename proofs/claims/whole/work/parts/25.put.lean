/-! pure part 6: one machine's column of the reference -/
def pm (F : Nat → zF) (j : Nat) (gM gI : zF) : Nat → zF := fun k i => if i = j then (if k = 11 then gM 6 else if k = 12 then gM 7 else if k = 13 then gM 8 else if k = 16 then gM 9 else if k = 21 then gM 10 else if k = 27 then gM 11 else if k = 28 then gM 12 else if k = 22 then gM 13 else if k = 23 then gM 14 else if k = 24 then gM 15 else if k = 25 then gM 16 else if k = 26 then gM 17 else if k = 17 then gI 0 else if k = 18 then gI 1 else if k = 19 then gI 2 else if k = 20 then gI 3 else F k i) else F k i
def put (F : Nat → zF) (j : Nat) (gM mk mx gI : zF) : Nat → zF := zc2 (pm F j gM gI) j mk mx
theorem pm_w11 (F : Nat → zF) (j : Nat) (gM gI : zF) (v : Int32) : zu (pm F j gM gI) 11 j v = pm F j (va_up gM 6 v) gI := by
  funext k i
  rw [zu_ap]
  unfold pm
  by_cases hi : i = j
  · by_cases hk : k = 11
    · simp [hi, hk, up_ap]
    · simp [hi, hk, up_ap]
  · simp [hi]
theorem put_w11 (F : Nat → zF) (j : Nat) (gM mk mx gI : zF) (v : Int32) : zu (put F j gM mk mx gI) 11 j v = put F j (va_up gM 6 v) mk mx gI := by
  unfold put; rw [zc2_zu _ _ _ _ (by decide) (by decide), pm_w11]
theorem put_r11 (F : Nat → zF) (j : Nat) (gM mk mx gI : zF) : put F j gM mk mx gI 11 j = gM 6 := by
  unfold put; rw [zc2_o _ _ _ _ (by decide) (by decide)]; simp [pm]
theorem pm_w12 (F : Nat → zF) (j : Nat) (gM gI : zF) (v : Int32) : zu (pm F j gM gI) 12 j v = pm F j (va_up gM 7 v) gI := by
  funext k i
  rw [zu_ap]
  unfold pm
  by_cases hi : i = j
  · by_cases hk : k = 12
    · simp [hi, hk, up_ap]
    · simp [hi, hk, up_ap]
  · simp [hi]
theorem put_w12 (F : Nat → zF) (j : Nat) (gM mk mx gI : zF) (v : Int32) : zu (put F j gM mk mx gI) 12 j v = put F j (va_up gM 7 v) mk mx gI := by
  unfold put; rw [zc2_zu _ _ _ _ (by decide) (by decide), pm_w12]
theorem put_r12 (F : Nat → zF) (j : Nat) (gM mk mx gI : zF) : put F j gM mk mx gI 12 j = gM 7 := by
  unfold put; rw [zc2_o _ _ _ _ (by decide) (by decide)]; simp [pm]
theorem pm_w13 (F : Nat → zF) (j : Nat) (gM gI : zF) (v : Int32) : zu (pm F j gM gI) 13 j v = pm F j (va_up gM 8 v) gI := by
  funext k i
  rw [zu_ap]
  unfold pm
  by_cases hi : i = j
  · by_cases hk : k = 13
    · simp [hi, hk, up_ap]
    · simp [hi, hk, up_ap]
  · simp [hi]
theorem put_w13 (F : Nat → zF) (j : Nat) (gM mk mx gI : zF) (v : Int32) : zu (put F j gM mk mx gI) 13 j v = put F j (va_up gM 8 v) mk mx gI := by
  unfold put; rw [zc2_zu _ _ _ _ (by decide) (by decide), pm_w13]
theorem put_r13 (F : Nat → zF) (j : Nat) (gM mk mx gI : zF) : put F j gM mk mx gI 13 j = gM 8 := by
  unfold put; rw [zc2_o _ _ _ _ (by decide) (by decide)]; simp [pm]
theorem pm_w16 (F : Nat → zF) (j : Nat) (gM gI : zF) (v : Int32) : zu (pm F j gM gI) 16 j v = pm F j (va_up gM 9 v) gI := by
  funext k i
  rw [zu_ap]
  unfold pm
  by_cases hi : i = j
  · by_cases hk : k = 16
    · simp [hi, hk, up_ap]
    · simp [hi, hk, up_ap]
  · simp [hi]
theorem put_w16 (F : Nat → zF) (j : Nat) (gM mk mx gI : zF) (v : Int32) : zu (put F j gM mk mx gI) 16 j v = put F j (va_up gM 9 v) mk mx gI := by
  unfold put; rw [zc2_zu _ _ _ _ (by decide) (by decide), pm_w16]
theorem put_r16 (F : Nat → zF) (j : Nat) (gM mk mx gI : zF) : put F j gM mk mx gI 16 j = gM 9 := by
  unfold put; rw [zc2_o _ _ _ _ (by decide) (by decide)]; simp [pm]
theorem pm_w21 (F : Nat → zF) (j : Nat) (gM gI : zF) (v : Int32) : zu (pm F j gM gI) 21 j v = pm F j (va_up gM 10 v) gI := by
  funext k i
  rw [zu_ap]
  unfold pm
  by_cases hi : i = j
  · by_cases hk : k = 21
    · simp [hi, hk, up_ap]
    · simp [hi, hk, up_ap]
  · simp [hi]
theorem put_w21 (F : Nat → zF) (j : Nat) (gM mk mx gI : zF) (v : Int32) : zu (put F j gM mk mx gI) 21 j v = put F j (va_up gM 10 v) mk mx gI := by
  unfold put; rw [zc2_zu _ _ _ _ (by decide) (by decide), pm_w21]
theorem put_r21 (F : Nat → zF) (j : Nat) (gM mk mx gI : zF) : put F j gM mk mx gI 21 j = gM 10 := by
  unfold put; rw [zc2_o _ _ _ _ (by decide) (by decide)]; simp [pm]
theorem pm_w27 (F : Nat → zF) (j : Nat) (gM gI : zF) (v : Int32) : zu (pm F j gM gI) 27 j v = pm F j (va_up gM 11 v) gI := by
  funext k i
  rw [zu_ap]
  unfold pm
  by_cases hi : i = j
  · by_cases hk : k = 27
    · simp [hi, hk, up_ap]
    · simp [hi, hk, up_ap]
  · simp [hi]
theorem put_w27 (F : Nat → zF) (j : Nat) (gM mk mx gI : zF) (v : Int32) : zu (put F j gM mk mx gI) 27 j v = put F j (va_up gM 11 v) mk mx gI := by
  unfold put; rw [zc2_zu _ _ _ _ (by decide) (by decide), pm_w27]
theorem put_r27 (F : Nat → zF) (j : Nat) (gM mk mx gI : zF) : put F j gM mk mx gI 27 j = gM 11 := by
  unfold put; rw [zc2_o _ _ _ _ (by decide) (by decide)]; simp [pm]
theorem pm_w28 (F : Nat → zF) (j : Nat) (gM gI : zF) (v : Int32) : zu (pm F j gM gI) 28 j v = pm F j (va_up gM 12 v) gI := by
  funext k i
  rw [zu_ap]
  unfold pm
  by_cases hi : i = j
  · by_cases hk : k = 28
    · simp [hi, hk, up_ap]
    · simp [hi, hk, up_ap]
  · simp [hi]
theorem put_w28 (F : Nat → zF) (j : Nat) (gM mk mx gI : zF) (v : Int32) : zu (put F j gM mk mx gI) 28 j v = put F j (va_up gM 12 v) mk mx gI := by
  unfold put; rw [zc2_zu _ _ _ _ (by decide) (by decide), pm_w28]
theorem put_r28 (F : Nat → zF) (j : Nat) (gM mk mx gI : zF) : put F j gM mk mx gI 28 j = gM 12 := by
  unfold put; rw [zc2_o _ _ _ _ (by decide) (by decide)]; simp [pm]
theorem pm_w22 (F : Nat → zF) (j : Nat) (gM gI : zF) (v : Int32) : zu (pm F j gM gI) 22 j v = pm F j (va_up gM 13 v) gI := by
  funext k i
  rw [zu_ap]
  unfold pm
  by_cases hi : i = j
  · by_cases hk : k = 22
    · simp [hi, hk, up_ap]
    · simp [hi, hk, up_ap]
  · simp [hi]
theorem put_w22 (F : Nat → zF) (j : Nat) (gM mk mx gI : zF) (v : Int32) : zu (put F j gM mk mx gI) 22 j v = put F j (va_up gM 13 v) mk mx gI := by
  unfold put; rw [zc2_zu _ _ _ _ (by decide) (by decide), pm_w22]
theorem put_r22 (F : Nat → zF) (j : Nat) (gM mk mx gI : zF) : put F j gM mk mx gI 22 j = gM 13 := by
  unfold put; rw [zc2_o _ _ _ _ (by decide) (by decide)]; simp [pm]
theorem pm_w23 (F : Nat → zF) (j : Nat) (gM gI : zF) (v : Int32) : zu (pm F j gM gI) 23 j v = pm F j (va_up gM 14 v) gI := by
  funext k i
  rw [zu_ap]
  unfold pm
  by_cases hi : i = j
  · by_cases hk : k = 23
    · simp [hi, hk, up_ap]
    · simp [hi, hk, up_ap]
  · simp [hi]
theorem put_w23 (F : Nat → zF) (j : Nat) (gM mk mx gI : zF) (v : Int32) : zu (put F j gM mk mx gI) 23 j v = put F j (va_up gM 14 v) mk mx gI := by
  unfold put; rw [zc2_zu _ _ _ _ (by decide) (by decide), pm_w23]
theorem put_r23 (F : Nat → zF) (j : Nat) (gM mk mx gI : zF) : put F j gM mk mx gI 23 j = gM 14 := by
  unfold put; rw [zc2_o _ _ _ _ (by decide) (by decide)]; simp [pm]
theorem pm_w24 (F : Nat → zF) (j : Nat) (gM gI : zF) (v : Int32) : zu (pm F j gM gI) 24 j v = pm F j (va_up gM 15 v) gI := by
  funext k i
  rw [zu_ap]
  unfold pm
  by_cases hi : i = j
  · by_cases hk : k = 24
    · simp [hi, hk, up_ap]
    · simp [hi, hk, up_ap]
  · simp [hi]
theorem put_w24 (F : Nat → zF) (j : Nat) (gM mk mx gI : zF) (v : Int32) : zu (put F j gM mk mx gI) 24 j v = put F j (va_up gM 15 v) mk mx gI := by
  unfold put; rw [zc2_zu _ _ _ _ (by decide) (by decide), pm_w24]
theorem put_r24 (F : Nat → zF) (j : Nat) (gM mk mx gI : zF) : put F j gM mk mx gI 24 j = gM 15 := by
  unfold put; rw [zc2_o _ _ _ _ (by decide) (by decide)]; simp [pm]
theorem pm_w25 (F : Nat → zF) (j : Nat) (gM gI : zF) (v : Int32) : zu (pm F j gM gI) 25 j v = pm F j (va_up gM 16 v) gI := by
  funext k i
  rw [zu_ap]
  unfold pm
  by_cases hi : i = j
  · by_cases hk : k = 25
    · simp [hi, hk, up_ap]
    · simp [hi, hk, up_ap]
  · simp [hi]
theorem put_w25 (F : Nat → zF) (j : Nat) (gM mk mx gI : zF) (v : Int32) : zu (put F j gM mk mx gI) 25 j v = put F j (va_up gM 16 v) mk mx gI := by
  unfold put; rw [zc2_zu _ _ _ _ (by decide) (by decide), pm_w25]
theorem put_r25 (F : Nat → zF) (j : Nat) (gM mk mx gI : zF) : put F j gM mk mx gI 25 j = gM 16 := by
  unfold put; rw [zc2_o _ _ _ _ (by decide) (by decide)]; simp [pm]
theorem pm_w26 (F : Nat → zF) (j : Nat) (gM gI : zF) (v : Int32) : zu (pm F j gM gI) 26 j v = pm F j (va_up gM 17 v) gI := by
  funext k i
  rw [zu_ap]
  unfold pm
  by_cases hi : i = j
  · by_cases hk : k = 26
    · simp [hi, hk, up_ap]
    · simp [hi, hk, up_ap]
  · simp [hi]
theorem put_w26 (F : Nat → zF) (j : Nat) (gM mk mx gI : zF) (v : Int32) : zu (put F j gM mk mx gI) 26 j v = put F j (va_up gM 17 v) mk mx gI := by
  unfold put; rw [zc2_zu _ _ _ _ (by decide) (by decide), pm_w26]
theorem put_r26 (F : Nat → zF) (j : Nat) (gM mk mx gI : zF) : put F j gM mk mx gI 26 j = gM 17 := by
  unfold put; rw [zc2_o _ _ _ _ (by decide) (by decide)]; simp [pm]
theorem pm_w17 (F : Nat → zF) (j : Nat) (gM gI : zF) (v : Int32) : zu (pm F j gM gI) 17 j v = pm F j gM (va_up gI 0 v) := by
  funext k i
  rw [zu_ap]
  unfold pm
  by_cases hi : i = j
  · by_cases hk : k = 17
    · simp [hi, hk, up_ap]
    · simp [hi, hk, up_ap]
  · simp [hi]
theorem put_w17 (F : Nat → zF) (j : Nat) (gM mk mx gI : zF) (v : Int32) : zu (put F j gM mk mx gI) 17 j v = put F j gM mk mx (va_up gI 0 v) := by
  unfold put; rw [zc2_zu _ _ _ _ (by decide) (by decide), pm_w17]
theorem put_r17 (F : Nat → zF) (j : Nat) (gM mk mx gI : zF) : put F j gM mk mx gI 17 j = gI 0 := by
  unfold put; rw [zc2_o _ _ _ _ (by decide) (by decide)]; simp [pm]
theorem pm_w18 (F : Nat → zF) (j : Nat) (gM gI : zF) (v : Int32) : zu (pm F j gM gI) 18 j v = pm F j gM (va_up gI 1 v) := by
  funext k i
  rw [zu_ap]
  unfold pm
  by_cases hi : i = j
  · by_cases hk : k = 18
    · simp [hi, hk, up_ap]
    · simp [hi, hk, up_ap]
  · simp [hi]
theorem put_w18 (F : Nat → zF) (j : Nat) (gM mk mx gI : zF) (v : Int32) : zu (put F j gM mk mx gI) 18 j v = put F j gM mk mx (va_up gI 1 v) := by
  unfold put; rw [zc2_zu _ _ _ _ (by decide) (by decide), pm_w18]
theorem put_r18 (F : Nat → zF) (j : Nat) (gM mk mx gI : zF) : put F j gM mk mx gI 18 j = gI 1 := by
  unfold put; rw [zc2_o _ _ _ _ (by decide) (by decide)]; simp [pm]
theorem pm_w19 (F : Nat → zF) (j : Nat) (gM gI : zF) (v : Int32) : zu (pm F j gM gI) 19 j v = pm F j gM (va_up gI 2 v) := by
  funext k i
  rw [zu_ap]
  unfold pm
  by_cases hi : i = j
  · by_cases hk : k = 19
    · simp [hi, hk, up_ap]
    · simp [hi, hk, up_ap]
  · simp [hi]
theorem put_w19 (F : Nat → zF) (j : Nat) (gM mk mx gI : zF) (v : Int32) : zu (put F j gM mk mx gI) 19 j v = put F j gM mk mx (va_up gI 2 v) := by
  unfold put; rw [zc2_zu _ _ _ _ (by decide) (by decide), pm_w19]
theorem put_r19 (F : Nat → zF) (j : Nat) (gM mk mx gI : zF) : put F j gM mk mx gI 19 j = gI 2 := by
  unfold put; rw [zc2_o _ _ _ _ (by decide) (by decide)]; simp [pm]
theorem pm_w20 (F : Nat → zF) (j : Nat) (gM gI : zF) (v : Int32) : zu (pm F j gM gI) 20 j v = pm F j gM (va_up gI 3 v) := by
  funext k i
  rw [zu_ap]
  unfold pm
  by_cases hi : i = j
  · by_cases hk : k = 20
    · simp [hi, hk, up_ap]
    · simp [hi, hk, up_ap]
  · simp [hi]
theorem put_w20 (F : Nat → zF) (j : Nat) (gM mk mx gI : zF) (v : Int32) : zu (put F j gM mk mx gI) 20 j v = put F j gM mk mx (va_up gI 3 v) := by
  unfold put; rw [zc2_zu _ _ _ _ (by decide) (by decide), pm_w20]
theorem put_r20 (F : Nat → zF) (j : Nat) (gM mk mx gI : zF) : put F j gM mk mx gI 20 j = gI 3 := by
  unfold put; rw [zc2_o _ _ _ _ (by decide) (by decide)]; simp [pm]
theorem put_r9 (F : Nat → zF) (j : Nat) (gM mk mx gI : zF) (i : Nat) : put F j gM mk mx gI 9 i = F 9 i := by
  unfold put; rw [zc2_o _ _ _ _ (by decide) (by decide)]; simp [pm]
theorem put_w9 (F : Nat → zF) (j : Nat) (gM mk mx gI : zF) (x : Nat) (v : Int32) : zu (put F j gM mk mx gI) 9 x v = put (zu F 9 x v) j gM mk mx gI := by
  unfold put; rw [zc2_zu _ _ _ _ (by decide) (by decide)]
  congr 1
  funext k i
  simp only [zu_ap, pm]
  by_cases hi : i = j
  · by_cases hk : k = 9
    · simp [hi, hk]
    · simp [hi, hk]
  · by_cases hk : k = 9
    · simp [hi, hk]
    · simp [hi, hk]
theorem put_r10 (F : Nat → zF) (j : Nat) (gM mk mx gI : zF) (i : Nat) : put F j gM mk mx gI 10 i = F 10 i := by
  unfold put; rw [zc2_o _ _ _ _ (by decide) (by decide)]; simp [pm]
theorem put_w10 (F : Nat → zF) (j : Nat) (gM mk mx gI : zF) (x : Nat) (v : Int32) : zu (put F j gM mk mx gI) 10 x v = put (zu F 10 x v) j gM mk mx gI := by
  unfold put; rw [zc2_zu _ _ _ _ (by decide) (by decide)]
  congr 1
  funext k i
  simp only [zu_ap, pm]
  by_cases hi : i = j
  · by_cases hk : k = 10
    · simp [hi, hk]
    · simp [hi, hk]
  · by_cases hk : k = 10
    · simp [hi, hk]
    · simp [hi, hk]
theorem put_r31 (F : Nat → zF) (j : Nat) (gM mk mx gI : zF) (i : Nat) : put F j gM mk mx gI 31 i = F 31 i := by
  unfold put; rw [zc2_o _ _ _ _ (by decide) (by decide)]; simp [pm]
theorem put_w31 (F : Nat → zF) (j : Nat) (gM mk mx gI : zF) (x : Nat) (v : Int32) : zu (put F j gM mk mx gI) 31 x v = put (zu F 31 x v) j gM mk mx gI := by
  unfold put; rw [zc2_zu _ _ _ _ (by decide) (by decide)]
  congr 1
  funext k i
  simp only [zu_ap, pm]
  by_cases hi : i = j
  · by_cases hk : k = 31
    · simp [hi, hk]
    · simp [hi, hk]
  · by_cases hk : k = 31
    · simp [hi, hk]
    · simp [hi, hk]
theorem put_r32 (F : Nat → zF) (j : Nat) (gM mk mx gI : zF) (i : Nat) : put F j gM mk mx gI 32 i = F 32 i := by
  unfold put; rw [zc2_o _ _ _ _ (by decide) (by decide)]; simp [pm]
theorem put_w32 (F : Nat → zF) (j : Nat) (gM mk mx gI : zF) (x : Nat) (v : Int32) : zu (put F j gM mk mx gI) 32 x v = put (zu F 32 x v) j gM mk mx gI := by
  unfold put; rw [zc2_zu _ _ _ _ (by decide) (by decide)]
  congr 1
  funext k i
  simp only [zu_ap, pm]
  by_cases hi : i = j
  · by_cases hk : k = 32
    · simp [hi, hk]
    · simp [hi, hk]
  · by_cases hk : k = 32
    · simp [hi, hk]
    · simp [hi, hk]
theorem put_r33 (F : Nat → zF) (j : Nat) (gM mk mx gI : zF) (i : Nat) : put F j gM mk mx gI 33 i = F 33 i := by
  unfold put; rw [zc2_o _ _ _ _ (by decide) (by decide)]; simp [pm]
theorem put_w33 (F : Nat → zF) (j : Nat) (gM mk mx gI : zF) (x : Nat) (v : Int32) : zu (put F j gM mk mx gI) 33 x v = put (zu F 33 x v) j gM mk mx gI := by
  unfold put; rw [zc2_zu _ _ _ _ (by decide) (by decide)]
  congr 1
  funext k i
  simp only [zu_ap, pm]
  by_cases hi : i = j
  · by_cases hk : k = 33
    · simp [hi, hk]
    · simp [hi, hk]
  · by_cases hk : k = 33
    · simp [hi, hk]
    · simp [hi, hk]
theorem put_r34 (F : Nat → zF) (j : Nat) (gM mk mx gI : zF) (i : Nat) : put F j gM mk mx gI 34 i = F 34 i := by
  unfold put; rw [zc2_o _ _ _ _ (by decide) (by decide)]; simp [pm]
theorem put_w34 (F : Nat → zF) (j : Nat) (gM mk mx gI : zF) (x : Nat) (v : Int32) : zu (put F j gM mk mx gI) 34 x v = put (zu F 34 x v) j gM mk mx gI := by
  unfold put; rw [zc2_zu _ _ _ _ (by decide) (by decide)]
  congr 1
  funext k i
  simp only [zu_ap, pm]
  by_cases hi : i = j
  · by_cases hk : k = 34
    · simp [hi, hk]
    · simp [hi, hk]
  · by_cases hk : k = 34
    · simp [hi, hk]
    · simp [hi, hk]
theorem put_r35 (F : Nat → zF) (j : Nat) (gM mk mx gI : zF) (i : Nat) : put F j gM mk mx gI 35 i = F 35 i := by
  unfold put; rw [zc2_o _ _ _ _ (by decide) (by decide)]; simp [pm]
theorem put_w35 (F : Nat → zF) (j : Nat) (gM mk mx gI : zF) (x : Nat) (v : Int32) : zu (put F j gM mk mx gI) 35 x v = put (zu F 35 x v) j gM mk mx gI := by
  unfold put; rw [zc2_zu _ _ _ _ (by decide) (by decide)]
  congr 1
  funext k i
  simp only [zu_ap, pm]
  by_cases hi : i = j
  · by_cases hk : k = 35
    · simp [hi, hk]
    · simp [hi, hk]
  · by_cases hk : k = 35
    · simp [hi, hk]
    · simp [hi, hk]
theorem put_r36 (F : Nat → zF) (j : Nat) (gM mk mx gI : zF) (i : Nat) : put F j gM mk mx gI 36 i = F 36 i := by
  unfold put; rw [zc2_o _ _ _ _ (by decide) (by decide)]; simp [pm]
theorem put_w36 (F : Nat → zF) (j : Nat) (gM mk mx gI : zF) (x : Nat) (v : Int32) : zu (put F j gM mk mx gI) 36 x v = put (zu F 36 x v) j gM mk mx gI := by
  unfold put; rw [zc2_zu _ _ _ _ (by decide) (by decide)]
  congr 1
  funext k i
  simp only [zu_ap, pm]
  by_cases hi : i = j
  · by_cases hk : k = 36
    · simp [hi, hk]
    · simp [hi, hk]
  · by_cases hk : k = 36
    · simp [hi, hk]
    · simp [hi, hk]
theorem put_r37 (F : Nat → zF) (j : Nat) (gM mk mx gI : zF) (i : Nat) : put F j gM mk mx gI 37 i = F 37 i := by
  unfold put; rw [zc2_o _ _ _ _ (by decide) (by decide)]; simp [pm]
theorem put_w37 (F : Nat → zF) (j : Nat) (gM mk mx gI : zF) (x : Nat) (v : Int32) : zu (put F j gM mk mx gI) 37 x v = put (zu F 37 x v) j gM mk mx gI := by
  unfold put; rw [zc2_zu _ _ _ _ (by decide) (by decide)]
  congr 1
  funext k i
  simp only [zu_ap, pm]
  by_cases hi : i = j
  · by_cases hk : k = 37
    · simp [hi, hk]
    · simp [hi, hk]
  · by_cases hk : k = 37
    · simp [hi, hk]
    · simp [hi, hk]
theorem put_r38 (F : Nat → zF) (j : Nat) (gM mk mx gI : zF) (i : Nat) : put F j gM mk mx gI 38 i = F 38 i := by
  unfold put; rw [zc2_o _ _ _ _ (by decide) (by decide)]; simp [pm]
theorem put_w38 (F : Nat → zF) (j : Nat) (gM mk mx gI : zF) (x : Nat) (v : Int32) : zu (put F j gM mk mx gI) 38 x v = put (zu F 38 x v) j gM mk mx gI := by
  unfold put; rw [zc2_zu _ _ _ _ (by decide) (by decide)]
  congr 1
  funext k i
  simp only [zu_ap, pm]
  by_cases hi : i = j
  · by_cases hk : k = 38
    · simp [hi, hk]
    · simp [hi, hk]
  · by_cases hk : k = 38
    · simp [hi, hk]
    · simp [hi, hk]
theorem put_r39 (F : Nat → zF) (j : Nat) (gM mk mx gI : zF) (i : Nat) : put F j gM mk mx gI 39 i = F 39 i := by
  unfold put; rw [zc2_o _ _ _ _ (by decide) (by decide)]; simp [pm]
theorem put_w39 (F : Nat → zF) (j : Nat) (gM mk mx gI : zF) (x : Nat) (v : Int32) : zu (put F j gM mk mx gI) 39 x v = put (zu F 39 x v) j gM mk mx gI := by
  unfold put; rw [zc2_zu _ _ _ _ (by decide) (by decide)]
  congr 1
  funext k i
  simp only [zu_ap, pm]
  by_cases hi : i = j
  · by_cases hk : k = 39
    · simp [hi, hk]
    · simp [hi, hk]
  · by_cases hk : k = 39
    · simp [hi, hk]
    · simp [hi, hk]
theorem put_r40 (F : Nat → zF) (j : Nat) (gM mk mx gI : zF) (i : Nat) : put F j gM mk mx gI 40 i = F 40 i := by
  unfold put; rw [zc2_o _ _ _ _ (by decide) (by decide)]; simp [pm]
theorem put_w40 (F : Nat → zF) (j : Nat) (gM mk mx gI : zF) (x : Nat) (v : Int32) : zu (put F j gM mk mx gI) 40 x v = put (zu F 40 x v) j gM mk mx gI := by
  unfold put; rw [zc2_zu _ _ _ _ (by decide) (by decide)]
  congr 1
  funext k i
  simp only [zu_ap, pm]
  by_cases hi : i = j
  · by_cases hk : k = 40
    · simp [hi, hk]
    · simp [hi, hk]
  · by_cases hk : k = 40
    · simp [hi, hk]
    · simp [hi, hk]
theorem put_ne (F : Nat → zF) (j : Nat) (gM mk mx gI : zF) {k i : Nat} (hi : i ≠ j) (h1 : k ≠ 14) (h2 : k ≠ 15) : put F j gM mk mx gI k i = F k i := by
  unfold put; rw [zc2_o _ _ _ _ h1 h2]; simp [pm, hi]
theorem put_14 (F : Nat → zF) (j : Nat) (gM mk mx gI : zF) {h : Nat} (hh : h < 12) : put F j gM mk mx gI 14 (12 * j + h) = mk h := zc2_a _ _ _ _ hh
theorem put_15 (F : Nat → zF) (j : Nat) (gM mk mx gI : zF) {h : Nat} (hh : h < 12) : put F j gM mk mx gI 15 (12 * j + h) = mx h := zc2_d _ _ _ _ hh
theorem put_z2 (F : Nat → zF) (j : Nat) (gM mk mx gI a b : zF) : zc2 (put F j gM mk mx gI) j a b = put F j gM a b gI := zc2_z2 _ _ _ _ _ _
theorem put_cg (F : Nat → zF) (j : Nat) (gM gI : zF) {mk mx mk' mx' : zF} (h1 : ∀ h, h < 12 → mk h = mk' h) (h2 : ∀ h, h < 12 → mx h = mx' h) : put F j gM mk mx gI = put F j gM mk' mx' gI := zc2_cg _ _ h1 h2
theorem put_w14 (F : Nat → zF) (j : Nat) (gM mk mx gI : zF) {h : Nat} (hh : h < 12) (v : Int32) : zu (put F j gM mk mx gI) 14 (12 * j + h) v = put F j gM (upd mk h v) mx gI := zc2_14 _ _ _ _ hh v
theorem put_w15 (F : Nat → zF) (j : Nat) (gM mk mx gI : zF) {h : Nat} (hh : h < 12) (v : Int32) : zu (put F j gM mk mx gI) 15 (12 * j + h) v = put F j gM mk (upd mx h v) gI := zc2_15 _ _ _ _ hh v
theorem pm_pm (F : Nat → zF) (j : Nat) (gM gI gM' gI' : zF) : pm (pm F j gM gI) j gM' gI' = pm F j gM' gI' := by
  funext k i
  unfold pm
  by_cases hi : i = j
  · by_cases h11 : k = 11
    · simp [hi, h11]
    by_cases h12 : k = 12
    · simp [hi, h12]
    by_cases h13 : k = 13
    · simp [hi, h13]
    by_cases h16 : k = 16
    · simp [hi, h16]
    by_cases h21 : k = 21
    · simp [hi, h21]
    by_cases h27 : k = 27
    · simp [hi, h27]
    by_cases h28 : k = 28
    · simp [hi, h28]
    by_cases h22 : k = 22
    · simp [hi, h22]
    by_cases h23 : k = 23
    · simp [hi, h23]
    by_cases h24 : k = 24
    · simp [hi, h24]
    by_cases h25 : k = 25
    · simp [hi, h25]
    by_cases h26 : k = 26
    · simp [hi, h26]
    by_cases h17 : k = 17
    · simp [hi, h17]
    by_cases h18 : k = 18
    · simp [hi, h18]
    by_cases h19 : k = 19
    · simp [hi, h19]
    by_cases h20 : k = 20
    · simp [hi, h20]
    simp only [hi, if_true, if_false, h11, h12, h13, h16, h21, h27, h28, h22, h23, h24, h25, h26, h17, h18, h19, h20]
  · simp [hi]
theorem pm_zc2 (F : Nat → zF) (j i : Nat) (gM gI a b : zF) : pm (zc2 F i a b) j gM gI = zc2 (pm F j gM gI) i a b := by
  funext k x
  by_cases h4 : k = 14
  · subst h4
    simp [pm, zc2, zcw]
  · by_cases h5 : k = 15
    · subst h5
      simp [pm, zc2, zcw]
    · rw [zc2_o _ _ _ _ h4 h5]
      unfold pm
      rw [zc2_o _ _ _ _ h4 h5]
theorem put_put (F : Nat → zF) (j : Nat) (gM mk mx gI gM' mk' mx' gI' : zF) : put (put F j gM mk mx gI) j gM' mk' mx' gI' = put F j gM' mk' mx' gI' := by
  unfold put
  rw [pm_zc2, zc2_z2, pm_pm]
theorem pm_cm (F : Nat → zF) {i j : Nat} (h : i ≠ j) (gM gI gM' gI' : zF) : pm (pm F j gM gI) i gM' gI' = pm (pm F i gM' gI') j gM gI := by
  funext k x
  unfold pm
  by_cases hi : x = i
  · have hj : x ≠ j := by omega
    simp [hi, h]
  · by_cases hj : x = j
    · have := h.symm
      simp [hj, this]
    · simp [hi, hj]
theorem zc2_cm (F : Nat → zF) {i j : Nat} (h : i ≠ j) (a b c d : zF) : zc2 (zc2 F j a b) i c d = zc2 (zc2 F i c d) j a b := by
  funext k x
  simp only [zc2, zcw]
  by_cases h4 : k = 14
  · subst h4
    simp
    by_cases h1 : 12 * i ≤ x ∧ x < 12 * i + 12
    · have h2 : ¬ (12 * j ≤ x ∧ x < 12 * j + 12) := by omega
      simp [h1, h2]
    · simp [h1]
  · by_cases h5 : k = 15
    · subst h5
      simp
      by_cases h1 : 12 * i ≤ x ∧ x < 12 * i + 12
      · have h2 : ¬ (12 * j ≤ x ∧ x < 12 * j + 12) := by omega
        simp [h1, h2]
      · simp [h1]
    · simp [h4, h5]
theorem put_cm (F : Nat → zF) {i j : Nat} (h : i ≠ j) (gM mk mx gI gM' mk' mx' gI' : zF) : put (put F j gM mk mx gI) i gM' mk' mx' gI' = put (put F i gM' mk' mx' gI') j gM mk mx gI := by
  unfold put
  rw [pm_zc2, pm_zc2, pm_cm F h, zc2_cm _ h]
/-- the reference's fields, the draws' state put in -/
def dg (g gD : zF) : zF := va_up g 0 (gD 0)
def drD (gD : zF) : zF := va_up gD 0 (drS (gD 0))
theorem dg_0 (g gD : zF) : dg g gD 0 = gD 0 := rfl
theorem dg_1 (g gD : zF) : dg g gD 1 = g 1 := rfl
theorem dg_2 (g gD : zF) : dg g gD 2 = g 2 := rfl
theorem dg_3 (g gD : zF) : dg g gD 3 = g 3 := rfl
theorem dg_4 (g gD : zF) : dg g gD 4 = g 4 := rfl
theorem dg_5 (g gD : zF) : dg g gD 5 = g 5 := rfl
theorem dg_6 (g gD : zF) : dg g gD 6 = g 6 := rfl
theorem dg_7 (g gD : zF) : dg g gD 7 = g 7 := rfl
theorem dg_8 (g gD : zF) : dg g gD 8 = g 8 := rfl
theorem dg_29 (g gD : zF) : dg g gD 29 = g 29 := rfl
theorem dg_30 (g gD : zF) : dg g gD 30 = g 30 := rfl
theorem dg_dr (g gD : zF) : va_up (dg g gD) 0 (drS (gD 0)) = dg g (drD gD) := by
  funext k
  simp only [dg, drD, up_ap]
  by_cases h : k = 0 <;> simp [h]
theorem dg_w (g gD : zF) {k : Nat} (hk : k ≠ 0) (v : Int32) : va_up (dg g gD) k v = dg (va_up g k v) gD := by
  funext i
  simp only [dg, up_ap]
  by_cases h : i = 0
  · simp [h, Ne.symm hk]
  · by_cases h2 : i = k <;> simp [h, h2, hk]
theorem dg_self {g gD : zF} (h : g 0 = gD 0) : dg g gD = g := by
  funext k
  simp only [dg, up_ap]
  by_cases h2 : k = 0
  · simp [h2, h]
  · simp [h2]
theorem draw7_d (g gD : zF) (F : Nat → zF) {m : Int32} (hm : ¬ m = 0) : s_X7_draw (dg g gD) F m = some (drA (gD 0) m, dg g (drD gD)) := by
  rw [draw7_e _ _ hm, dg_0, dg_dr]
theorem below_d (gD : zF) {m : Int32} (h1 : 1 ≤ m) (hm : ¬ m = 0) : s_X1_below gD m = some (drA (gD 0) m, drD gD) := below_e gD h1 hm
