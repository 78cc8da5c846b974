/-! the calls, one by one, 4: about; the start -/
theorem sent_r {g fO to gR gD : zF} {S : Nat → Nat → zF} {C : Nat → Option Nat} {n : Nat} (hn : n ≤ 12) (h5 : g 5 = nI n) : ∀ i, i ≤ n → s_X6_lettersSent g fO to gR gD S C n = s_X6_lettersSent_b4 g fO to gR gD S C n (13 - i) (tot S i) (nI i)
  | 0, _ => by
    unfold s_X6_lettersSent
    rw [nI_0, Nat.sub_zero, tot]
  | i + 1, hi => by
    have hin : i < n := by omega
    rw [sent_r hn h5 i (by omega), show 13 - i = (13 - (i + 1)) + 1 by omega, s_X6_lettersSent_b4, h5, if_neg (nI_ge hin (by omega)), at_s hn h5 hin, tot, zl_e, zl_e, nI_s]
theorem sent_e {g fO to gR gD : zF} {S : Nat → Nat → zF} {C : Nat → Option Nat} {n : Nat} (hn : n ≤ 12) (h5 : g 5 = nI n) : s_X6_lettersSent g fO to gR gD S C n = some (tot S n) := by
  rw [sent_r hn h5 n (Nat.le_refl n), show 13 - n = (12 - n) + 1 by omega, s_X6_lettersSent_b4, h5, if_pos (nI_le (Nat.le_refl n) (by omega))]
def rnN (S : Nat → Nat → zF) (v : Int32) : Nat → Int32
  | 0 => 0
  | i + 1 => if v = 0 then rnN S v i else if S i 0 9 = v then rnN S v i + 1 else rnN S v i
theorem run_r {g fO to gR gD : zF} {S : Nat → Nat → zF} {C : Nat → Option Nat} {n : Nat} (hn : n ≤ 12) (h5 : g 5 = nI n) : ∀ i, i ≤ n → s_X6_runnersOfGreatest g fO to gR gD S C n = s_X6_runnersOfGreatest_b4 g fO to gR gD S C n (13 - i) (rnN S (g 8) i) (nI i)
  | 0, _ => by
    unfold s_X6_runnersOfGreatest
    rw [nI_0, Nat.sub_zero, rnN]
  | i + 1, hi => by
    have hin : i < n := by omega
    rw [run_r hn h5 i (by omega), show 13 - i = (13 - (i + 1)) + 1 by omega, s_X6_runnersOfGreatest_b4, h5, if_neg (nI_ge hin (by omega)), at_s hn h5 hin, rnN]
    simp -implicitDefEqProofs only [zl_e, nI_s]
    by_cases c1 : g 8 = 0
    · rw [if_pos c1, if_pos c1]
    · rw [if_neg c1, if_neg c1]
      by_cases c2 : S i 0 9 = g 8
      · rw [if_pos c2, if_pos c2]
      · rw [if_neg c2, if_neg c2]
theorem run_e {g fO to gR gD : zF} {S : Nat → Nat → zF} {C : Nat → Option Nat} {n : Nat} (hn : n ≤ 12) (h5 : g 5 = nI n) : s_X6_runnersOfGreatest g fO to gR gD S C n = some (rnN S (g 8) n) := by
  rw [run_r hn h5 n (Nat.le_refl n), show 13 - n = (12 - n) + 1 by omega, s_X6_runnersOfGreatest_b4, h5, if_pos (nI_le (Nat.le_refl n) (by omega))]
theorem abt_r {fO to : zF} {n : Nat} {v x : Int32} {S : Nat → Nat → zF} {F : Nat → zF} (hn : n ≤ 12) {G : zF} (h5 : G 5 = nI n) (hB : BR n to fO v S x F) (p1 : Int32) : ∀ i, i ≤ n → s_X7_about_b10 G F 13 p1 v 0 0 = s_X7_about_b10 G F (13 - i) p1 v (rnN S v i) (nI i)
  | 0, _ => by rw [nI_0, Nat.sub_zero, rnN]
  | i + 1, hi => by
    have hin : i < n := by omega
    have hi12 : i < 12 := by omega
    have hv := bd_z (by decide) hB.2.2.2.2.2.2.2
    rw [abt_r hn h5 hB p1 i (by omega), show 13 - i = (13 - (i + 1)) + 1 by omega, s_X7_about_b10, h5, if_neg (nI_ge hin (by omega)), rnN]
    simp -implicitDefEqProofs only [zl_e, nI_s, nj_n hi12, nj_cl hi12, nj_l hi12, or_self, if_false, fld16 hB hin, Int32.add_zero, hv]
    by_cases c1 : v = 0
    · rw [if_pos c1, if_pos c1]
    · rw [if_neg c1, if_neg c1]
      by_cases c2 : S i 0 9 = v
      · rw [if_pos c2, if_pos c2]
      · rw [if_neg c2, if_neg c2]
theorem about_op {n : Nat} {g fO to gR gD : zF} {S : Nat → Nat → zF} {C : Nat → Option Nat} {g2 : zF} {F : Nat → zF} (h : ZR n g fO to gR gD S C g2 F) (p1 : Int32) : ∃ r, s_X6_about g fO to gR gD S C n p1 = some r ∧ s_X7_about g2 F p1 = some r := by
  obtain ⟨t, k, v, ht, ⟨hn, hR, ⟨h5, h25⟩, ⟨h7, h26⟩, ⟨hk, hk1, hk2⟩, hB, hK, hO, hC⟩, h0⟩ := h
  unfold s_X6_about s_X7_about
  rw [gk_e hn h25 hB, zb1_s, abt_r hn h25 hB p1 n (Nat.le_refl n), show 13 - n = (12 - n) + 1 by omega, s_X7_about_b10, h25, if_pos (nI_le (Nat.le_refl n) (by omega)), sent_e hn h5, zb1_s, run_e hn h5, zb1_s, hK.1, h5, h7, h26, hk1, hk2, hB.2.2.2.2.1, hK.2.2.1]
  by_cases q0 : p1 = 0
  · rw [if_pos q0, if_pos q0]; exact ⟨_, rfl, rfl⟩
  · rw [if_neg q0, if_neg q0]
    by_cases q1 : p1 = 1
    · rw [if_pos q1, if_pos q1]; exact ⟨_, rfl, rfl⟩
    · rw [if_neg q1, if_neg q1]
      by_cases q2 : p1 = 2
      · rw [if_pos q2, if_pos q2]; exact ⟨_, rfl, rfl⟩
      · rw [if_neg q2, if_neg q2]
        by_cases q3 : p1 = 3
        · rw [if_pos q3, if_pos q3]; exact ⟨_, rfl, rfl⟩
        · rw [if_neg q3, if_neg q3]
          by_cases q4 : p1 = 4
          · rw [if_pos q4, if_pos q4]; exact ⟨_, rfl, rfl⟩
          · rw [if_neg q4, if_neg q4]
            by_cases q5 : p1 = 5
            · rw [if_pos q5, if_pos q5]
              by_cases e : g2 29 = v
              · rw [if_pos e, if_pos e.symm]; exact ⟨_, rfl, rfl⟩
              · rw [if_neg e, if_neg (fun q => e q.symm)]; exact ⟨_, rfl, rfl⟩
            · rw [if_neg q5, if_neg q5]; exact ⟨_, rfl, rfl⟩
def iF (i : Nat) : Nat → zF := fun k x => if k = 10 ∧ x < i then -1 else 0
theorem ini_r (g : zF) : ∀ i, i ≤ 144 → s_X7_init_b281 g 145 (fun _ _ => 0) 0 = s_X7_init_b281 g (145 - i) (iF i) (nI i)
  | 0, _ => by
    have e : (fun _ _ => 0 : Nat → zF) = iF 0 := by
      funext k x
      simp [iF]
    rw [nI_0, Nat.sub_zero, e]
  | i + 1, hi => by
    have e : zu (iF i) 10 i (-1) = iF (i + 1) := by
      funext k x
      rw [zu_ap]
      unfold iF
      by_cases h1 : k = 10
      · by_cases h2 : x = i
        · simp [h1, h2]
        · by_cases h3 : x < i
          · simp [h1, h2, h3, show x < i + 1 by omega]
          · simp [h1, h2, h3, show ¬ x < i + 1 by omega]
      · simp [h1]
    have hc : ¬ (144 : Int32) ≤ nI i := nI_ge (b := 144) (by omega) (by omega)
    rw [ini_r g i (by omega), show 145 - i = (145 - (i + 1)) + 1 by omega, s_X7_init_b281, if_neg hc, if_neg (nI_in (by omega) (by omega)), nI_clamp (by omega), zl_e, zl_e, nI_s, e]
theorem ini_e (g : zF) : s_X7_init_b281 g 145 (fun _ _ => 0) 0 = some (iF 144) := by
  rw [ini_r g 144 (by omega), show 145 - 144 = 0 + 1 by rfl, s_X7_init_b281, if_pos (by decide)]
theorem put_z {F : Nat → zF} (h : ∀ k i, k ≠ 10 → F k i = 0) (j : Nat) : put F j z0 z0 z0 z0 = F := by
  funext k i
  by_cases e : k = 10
  · subst e; rw [put_r10]
  · rw [put_lo (F := fun _ _ => 0) (h k i e), h k i e]
    simp [put, zc2, zcw, pm, z0]
def fO0 : zF := fun h => if h < 144 then -1 else 0
theorem fo_e : s_J7_fill_53178 (fun _ => 0) 144 (-1) = some fO0 := fill_e (fun _ => 0) (-1) 144 (by decide)
theorem ZR_0 (S : Nat → Nat → zF) (C : Nat → Option Nat) : ZR 0 gX0 fO0 (fun _ => 0) gR0 gD0 S C gZ0 (iF 144) := by
  have hz : ∀ k i, k ≠ 10 → iF 144 k i = 0 := fun k i h => by simp [iF, h]
  refine ⟨0, 0, 0, by omega, ⟨by omega, ⟨rfl, rfl, rfl, rfl, ⟨4, by omega, by omega, rfl⟩, ⟨64, by omega, by omega, rfl⟩, ⟨6, by omega, by omega, rfl⟩⟩, ⟨nI_0.symm, nI_0.symm⟩, ⟨nI_0.symm, nI_0.symm⟩, ⟨by omega, nI_0.symm, nI_0.symm⟩, ⟨fun j hj => by omega, fun j _ => put_z hz j, fun i hi => hz 9 i (by decide), fun i hi => ?_, rfl, ⟨fun j hj => by omega, Or.inl rfl, ⟨0, by omega, nI_0.symm⟩⟩⟩, ⟨rfl, ?_, rfl, Or.inl rfl⟩, fun i hi => ?_, fun j k hj => by omega⟩, rfl⟩
  · simp [iF, fO0, hi]
  · exact Int32.le_refl 0
  · left
    simp [fO0, hi]
