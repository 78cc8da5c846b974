/-! the law: its loop and its start -/
set_option maxHeartbeats 4000000 in
set_option maxRecDepth 100000 in
theorem law_loop {p : Program} {l : Launch} {e : Env} {s : State} {m : MethodId} {below : List Frame} {meth : Method} {c : Code} {b L : Nat} {xs : Nat → Int32} (hL : L ≤ 2560) (C0 : lw_At p s m meth c b L xs) {dD : va_G} {cI cA : ClassId} (hK : zK dD cI cA s) {q q2 : Nat → Nat} : ∀ (f k cells slots : Nat), L < 5 * k + 5 * f → 5 * k ≤ L → cells + 6 * f ≤ 600000 → slots + 58 * f ≤ 7302250 → ∀ (n : Nat) (qq : Nat → Nat → Nat) (g fO to gR gD : zF) (S : Nat → Nat → zF) (C : Nat → Option Nat) (g2 : zF) (F : Nat → zF) (H : Heap) (locs : List Loc) (ls : Array Slot), ZR n g fO to gR gD S C g2 F → va_P dD vwCl (([zX q g, zP cA (q 3) (zfm qq n), zA cI (q 4) 144 fO, zA cI (q 5) 12 to, zR (q 2) gR, zD (q 1) gD] ++ zPool cI q qq n S C) ++ zQ cI q2 g2 F) H → va_D (fun x : Nat => s.heap.size ≤ x) (([zX q g, zP cA (q 3) (zfm qq n), zA cI (q 4) 144 fO, zA cI (q 5) 12 to, zR (q 2) gR, zD (q 1) gD] ++ zPool cI q qq n S C) ++ zQ cI q2 g2 F) → va_S (fun x : Nat => s.heap.size ≤ x) s.heap H locs → lv_has ls 4 [(0, .ref b), (1, .ref (q 0)), (2, .ref (q2 0)), (3, .int (nI (5 * k)))] → W p l e room_1 s m #[Value.ref b] below meth c H locs cells slots (lw_Z below #[Value.ref b] s) (F0 m 18 ls []) := by
  have C1 := C0
  obtain ⟨hx, hb, hr, hml, hown, hts0, hX, hbl, hlocks, hgv⟩ := C0
  have hA : ∀ x : Nat, s.heap.size ≤ x → (fun x : Nat => s.heap.size ≤ x) x := fun _ h => h
  have hbA : ¬ (fun x : Nat => s.heap.size ≤ x) b := Nat.not_le.mpr hbl
  intro f
  induction f with
  | zero =>
    intro k cells slots h1 h2
    omega
  | succ f ih =>
    intro k cells slots hf hk hc hs n qq g fO to gR gD S C g2 F H locs ls hZ hP hD hS hl
    refine lv_iload_n hx hb dL_law_18 rfl (lv_at hl 3 rfl) ?_
    refine lv_aload_n hx hb dL_law_19 rfl (lv_at hl 0 rfl) ?_
    refine va_slen hx hb hX hbl hbA hS dL_law_20 ?_
    refine lv_iconst (v := nI 5) hx hb dL_law_21 (by decide) ?_
    refine lv_isub hx hb dL_law_22 ?_
    have hcmp : (nI L - nI 5).toInt = (L : Int) - 5 := pk_sub_toInt (by omega) (by omega)
    have hcmp2 : (nI (5 * k)).toInt = ((5 * k : Nat) : Int) := nI_toInt (by omega)
    refine lv_icmp_gt (tgt := 566) hx hb dL_law_23 (by decide) (fun c1 => ?_) (fun c1 => ?_)
    · refine lv_iconst (v := 1) hx hb dL_law_566 (by decide) ?_
      refine va_forget (fun x hx => hS.2.2 x hx) ?_
      refine W.widen (k := 600000) (n := 7302250) (by omega) (by omega) ?_
      exact lw_ret hx hb hr hlocks dL_law_567
    · have c2 : ¬ (nI L - nI 5 < nI (5 * k)) := c1
      rw [Int32.lt_iff_toInt_lt, hcmp, hcmp2] at c2
      have hk5 : 5 * k + 5 ≤ L := by omega
      have KK : lKK p l e s m below meth c b dD cI cA q q2 k cells slots (lw_Z below #[Value.ref b] s) := by
        intro n qq g fO to gR gD S C g2 F H locs ls hZ hP hD hS hl
        have hv : nI (5 * k) + Int32.ofInt 5 = nI (5 * (k + 1)) := nI_add (5 * k) 5
        refine lv_iinc (v := nI (5 * (k + 1))) (lv' := [(3, .int (nI (5 * (k + 1)))), (0, .ref b), (1, .ref (q 0)), (2, .ref (q2 0))]) hx hb dL_law_560 hl (k := 3) rfl hv (by decide) rfl (fun ls hl => ?_)
        refine lv_goto (tgt := 18) hx hb dL_law_563 (by decide) ?_
        exact ih (k + 1) (cells + 6) (slots + 58) (by omega) (by omega) (by omega) (by omega) n qq g fO to gR gD S C g2 F H locs ls hZ hP hD hS (lv_sub hl [1, 2, 3, 0] rfl)
      refine lv_aload_n hx hb dL_law_26 rfl (lv_at hl 0 rfl) ?_
      refine lv_iload_n hx hb dL_law_27 rfl (lv_at hl 3 rfl) ?_
      refine va_sld hx hb hX hbl hbA hS (vp_in_nI (show 5 * k < L by omega) (by omega)) dL_law_28 ?_
      refine lv_bipush (v := 15) hx hb dL_law_29 (by decide) ?_
      refine lv_iand hx hb dL_law_31 ?_
      obtain ⟨j, j1, j2⟩ := pk_andE (xs (nI (5 * k)).toNatClampNeg) (m := 15) 4 (by decide)
      refine z_top j2.symm ?_
      have j3 : j = 0 ∨ j = 1 ∨ j = 2 ∨ j = 3 ∨ j = 4 ∨ j = 5 ∨ j = 6 ∨ j = 7 ∨ j = 8 ∨ j = 9 ∨ j = 10 ∨ j = 11 ∨ j = 12 ∨ j = 13 ∨ 14 ≤ j := by omega
      have hc6 : cells + 6 ≤ 600000 := by omega
      have hs6 : slots + 58 ≤ 7302250 := by omega
      clear j2
      rcases j3 with rfl | rfl | rfl | rfl | rfl | rfl | rfl | rfl | rfl | rfl | rfl | rfl | rfl | rfl | hj
      · refine lv_tableIn (off := 72) (tgt := 104) hx hb dL_law_32 (by decide) (by decide) (by decide) (by decide) ?_
        exact lc_0 C1 hK hL hk5 hc6 hs6 KK hZ hP hD hS hl
      · refine lv_tableIn (off := 93) (tgt := 125) hx hb dL_law_32 (by decide) (by decide) (by decide) (by decide) ?_
        exact lc_1 C1 hK hL hk5 hc6 hs6 KK hZ hP hD hS hl
      · refine lv_tableIn (off := 146) (tgt := 178) hx hb dL_law_32 (by decide) (by decide) (by decide) (by decide) ?_
        exact lc_2 C1 hK hL hk5 hc6 hs6 KK hZ hP hD hS hl
      · refine lv_tableIn (off := 159) (tgt := 191) hx hb dL_law_32 (by decide) (by decide) (by decide) (by decide) ?_
        exact lc_3 C1 hK hL hk5 hc6 hs6 KK hZ hP hD hS hl
      · refine lv_tableIn (off := 202) (tgt := 234) hx hb dL_law_32 (by decide) (by decide) (by decide) (by decide) ?_
        exact lc_4 C1 hK hL hk5 hc6 hs6 KK hZ hP hD hS hl
      · refine lv_tableIn (off := 225) (tgt := 257) hx hb dL_law_32 (by decide) (by decide) (by decide) (by decide) ?_
        exact lc_5 C1 hK hL hk5 hc6 hs6 KK hZ hP hD hS hl
      · refine lv_tableIn (off := 258) (tgt := 290) hx hb dL_law_32 (by decide) (by decide) (by decide) (by decide) ?_
        exact lc_6 C1 hK hL hk5 hc6 hs6 KK hZ hP hD hS hl
      · refine lv_tableIn (off := 301) (tgt := 333) hx hb dL_law_32 (by decide) (by decide) (by decide) (by decide) ?_
        exact lc_7 C1 hK hL hk5 hc6 hs6 KK hZ hP hD hS hl
      · refine lv_tableIn (off := 344) (tgt := 376) hx hb dL_law_32 (by decide) (by decide) (by decide) (by decide) ?_
        exact lc_8 C1 hK hL hk5 hc6 hs6 KK hZ hP hD hS hl
      · refine lv_tableIn (off := 393) (tgt := 425) hx hb dL_law_32 (by decide) (by decide) (by decide) (by decide) ?_
        exact lc_9 C1 hK hL hk5 hc6 hs6 KK hZ hP hD hS hl
      · refine lv_tableIn (off := 416) (tgt := 448) hx hb dL_law_32 (by decide) (by decide) (by decide) (by decide) ?_
        exact lc_10 C1 hK hL hk5 hc6 hs6 KK hZ hP hD hS hl
      · refine lv_tableIn (off := 449) (tgt := 481) hx hb dL_law_32 (by decide) (by decide) (by decide) (by decide) ?_
        exact lc_11 C1 hK hL hk5 hc6 hs6 KK hZ hP hD hS hl
      · refine lv_tableIn (off := 482) (tgt := 514) hx hb dL_law_32 (by decide) (by decide) (by decide) (by decide) ?_
        exact lc_12 C1 hK hL hk5 hc6 hs6 KK hZ hP hD hS hl
      · refine lv_tableIn (off := 505) (tgt := 537) hx hb dL_law_32 (by decide) (by decide) (by decide) (by decide) ?_
        exact lc_13 C1 hK hL hk5 hc6 hs6 KK hZ hP hD hS hl
      · refine lv_tableOut (tgt := 560) hx hb dL_law_32 (Or.inr (by rw [nI_toInt (by omega)]; omega)) (by decide) ?_
        refine W.widen (k := cells + 6) (n := slots + 58) (by omega) (by omega) ?_
        exact KK _ _ _ _ _ _ _ _ _ _ _ _ _ _ hZ hP hD hS hl
theorem zfm_0 (qq : Nat → Nat → Nat) : zfm qq 0 = fun _ => none := by
  funext i
  simp [zfm]
set_option maxHeartbeats 4000000 in
set_option maxRecDepth 100000 in
/-- THE LAW, from its entry -/
theorem whole_start {p : Program} {e : Env} {s : State} {m : MethodId} {below : List Frame} {meth : Method} {c : Code} (l : Launch) {b L : Nat} {xs : Nat → Int32} (hL : L ≤ 2560) (C0 : lw_At p s m meth c b L xs) : W p l e room_1 s m #[Value.ref b] below meth c s.heap [] 0 0 (lw_Z below #[Value.ref b] s) (entryFrame m ([Value.ref b] : List Value).toArray 4) := by
  have C1 := C0
  obtain ⟨hx, hb, hr, hml, hown, hts0, hX, hbl, hlocks, hgv⟩ := C0
  have hts : ∀ w ∈ wsL_law, w.before #[Value.ref b] s = true := fun w hw => hts0 w (law_in w hw)
  have hown : s.vm.findClass RL = some m.cls := hown
  have hA : ∀ x : Nat, s.heap.size ≤ x → (fun x : Nat => s.heap.size ≤ x) x := fun _ h => h
  obtain ⟨dD, cI, cA, hK⟩ := zK_start hts0
  have hS : va_S (fun x : Nat => s.heap.size ≤ x) s.heap s.heap [] := va_S.rf
  have hP : va_P dD vwCl [] s.heap := fun k x h => by simp at h
  have hD : va_D (fun x : Nat => s.heap.size ≤ x) [] := ⟨fun i j x y h => by simp at h, fun k x h => by simp at h⟩
  have hl := lv_entry ([.ref b]) (n := 4) (Nat.le_of_ble_eq_true rfl)
  rw [lg_entry_eq]
  generalize (lg_sl ([.ref b]) ++ List.replicate (4 - (lg_sl ([.ref b])).length) Slot.unset).toArray = ls at hl ⊢
  have hl : lv_has ls 4 [(0, .ref b)] := hl
  refine va_new (ci := 6) (fs := [.null, .null, .null, .null, .null, .int 0, .int 0, .int 0, .int 0, .int 0]) (C := RX6) (T := TX6) (N := 10) hx hb hts inlX6 tyX6 tyX6_ok hown (hts (.classLink RL 7 RX6) (by decide +kernel)) (hts (.instantiable RX6 10) (by decide +kernel)) (hts (.initialized RX6) (by decide +kernel)) hK.1 hP hD hS hA rfl (fun j hj => by rcases (show j = 0 ∨ j = 1 ∨ j = 2 ∨ j = 3 ∨ j = 4 ∨ j = 5 ∨ j = 6 ∨ j = 7 ∨ j = 8 ∨ j = 9 by omega) with rfl | rfl | rfl | rfl | rfl | rfl | rfl | rfl | rfl | rfl <;> rfl) (Nat.le_of_ble_eq_true rfl) (Nat.le_of_ble_eq_true rfl) dL_law_0 (fun a H hP hD hS => ?_)
  have hP : va_P dD vwCl [(a, .inr (6, [.null, .null, .null, .null, .null, .int 0, .int 0, .int 0, .int 0, .int 0]))] H := hP
  have hD : va_D (fun x : Nat => s.heap.size ≤ x) [(a, .inr (6, [.null, .null, .null, .null, .null, .int 0, .int 0, .int 0, .int 0, .int 0]))] := hD
  refine W.widen (k := 1) (n := 10) (by decide) (by decide) ?_
  refine lv_dup hx hb dL_law_3 rfl ?_
  refine z_callI (R := room_1) ⟨hx, hb, hml, hown, hts⟩ hK (c_X6_init l dD cI cA a fO0 fo_e) (cwI 0 hts gL_law_X6_init rfl rfl rfl (hts (.initialized RX6) (by decide +kernel)) (hts (.methodLink RL 9 yX6_init) (by decide +kernel)) (hts (.instanceMethod yX6_init) (by decide +kernel)) rfl (by decide +kernel) ⟨Nat.le_of_ble_eq_true rfl, Nat.le_of_ble_eq_true rfl⟩) (fun _ => 0) (fun u => zJ.full hP hD hS hA) hS rfl hl.1 rfl (Nat.le_of_ble_eq_true rfl) dL_law_4 ⟨Nat.le_of_ble_eq_true rfl, Nat.le_of_ble_eq_true rfl⟩ (fun u H locs hu hPn hDn hS => ?_)
  subst hu
  have hP : va_P dD vwCl ([zX u gX0, zP cA (u 3) (zfm (fun _ _ => 0) 0), zA cI (u 4) 144 fO0, zA cI (u 5) 12 (fun _ => 0), zR (u 2) gR0, zD (u 1) gD0] ++ zPool cI u (fun _ _ => 0) 0 (fun _ _ _ => 0) (fun _ => none)) H := by rw [zfm_0]; exact hPn
  have hD : va_D (fun x : Nat => s.heap.size ≤ x) ([zX u gX0, zP cA (u 3) (zfm (fun _ _ => 0) 0), zA cI (u 4) 144 fO0, zA cI (u 5) 12 (fun _ => 0), zR (u 2) gR0, zD (u 1) gD0] ++ zPool cI u (fun _ _ => 0) 0 (fun _ _ _ => 0) (fun _ => none)) := by rw [zfm_0]; exact hDn
  refine W.widen (k := 6) (n := 183) (by decide) (by decide) ?_
  refine lv_astore_n (lv' := [(1, .ref (u 0)), (0, .ref b)]) hx hb dL_law_7 rfl hl (by decide) rfl (fun ls hl => ?_)
  refine va_new (ci := 7) (fs := [.int 0, .int 0, .int 0, .int 0, .int 0, .int 0, .int 0, .int 0, .int 0, .null, .null, .null, .null, .null, .null, .null, .null, .null, .null, .null, .null, .null, .null, .null, .null, .null, .null, .null, .null, .int 0, .int 0, .null, .null, .null, .null, .null, .null, .null, .null, .null, .null]) (C := RX7) (T := TX7) (N := 41) hx hb hts inlX7 tyX7 tyX7_ok hown (hts (.classLink RL 10 RX7) (by decide +kernel)) (hts (.instantiable RX7 41) (by decide +kernel)) (hts (.initialized RX7) (by decide +kernel)) hK.1 hP hD hS hA rfl (fun j hj => by rcases (show j = 0 ∨ j = 1 ∨ j = 2 ∨ j = 3 ∨ j = 4 ∨ j = 5 ∨ j = 6 ∨ j = 7 ∨ j = 8 ∨ j = 9 ∨ j = 10 ∨ j = 11 ∨ j = 12 ∨ j = 13 ∨ j = 14 ∨ j = 15 ∨ j = 16 ∨ j = 17 ∨ j = 18 ∨ j = 19 ∨ j = 20 ∨ j = 21 ∨ j = 22 ∨ j = 23 ∨ j = 24 ∨ j = 25 ∨ j = 26 ∨ j = 27 ∨ j = 28 ∨ j = 29 ∨ j = 30 ∨ j = 31 ∨ j = 32 ∨ j = 33 ∨ j = 34 ∨ j = 35 ∨ j = 36 ∨ j = 37 ∨ j = 38 ∨ j = 39 ∨ j = 40 by omega) with rfl | rfl | rfl | rfl | rfl | rfl | rfl | rfl | rfl | rfl | rfl | rfl | rfl | rfl | rfl | rfl | rfl | rfl | rfl | rfl | rfl | rfl | rfl | rfl | rfl | rfl | rfl | rfl | rfl | rfl | rfl | rfl | rfl | rfl | rfl | rfl | rfl | rfl | rfl | rfl | rfl <;> rfl) (Nat.le_of_ble_eq_true rfl) (Nat.le_of_ble_eq_true rfl) dL_law_8 (fun a H hP hD hS => ?_)
  refine W.widen (k := 7) (n := 224) (by decide) (by decide) ?_
  refine lv_dup hx hb dL_law_11 rfl ?_
  refine z_callI (R := room_1) ⟨hx, hb, hml, hown, hts⟩ hK (c_X7_init l dD cI cA a (iF 144) (ini_e gZ0)) (cwI 0 hts gL_law_X7_init rfl rfl rfl (hts (.initialized RX7) (by decide +kernel)) (hts (.methodLink RL 12 yX7_init) (by decide +kernel)) (hts (.instanceMethod yX7_init) (by decide +kernel)) rfl (by decide +kernel) ⟨Nat.le_of_ble_eq_true rfl, Nat.le_of_ble_eq_true rfl⟩) (fun _ => 0) (fun u2 => zJ_r hP hD hS hA) hS rfl hl.1 rfl (Nat.le_of_ble_eq_true rfl) dL_law_12 ⟨Nat.le_of_ble_eq_true rfl, Nat.le_of_ble_eq_true rfl⟩ (fun u2 H locs hu hPn hDn hS => ?_)
  subst hu
  refine W.widen (k := 37) (n := 980) (by decide) (by decide) ?_
  refine lv_astore_n (lv' := [(2, .ref (u2 0)), (1, .ref (u 0)), (0, .ref b)]) hx hb dL_law_15 rfl hl (by decide) rfl (fun ls hl => ?_)
  refine lv_iconst (v := nI (5 * 0)) hx hb dL_law_16 (by decide) ?_
  refine lv_istore_n (lv' := [(3, .int (nI (5 * 0))), (2, .ref (u2 0)), (1, .ref (u 0)), (0, .ref b)]) hx hb dL_law_17 rfl hl (by decide) rfl (fun ls hl => ?_)
  exact law_loop hL C1 hK (q := u) (q2 := u2) 513 0 37 980 (by omega) (by omega) (by omega) (by omega) 0 (fun _ _ => 0) gX0 fO0 (fun _ => 0) gR0 gD0 (fun _ _ _ => 0) (fun _ => none) gZ0 (iF 144) H locs ls (ZR_0 _ _) hPn hDn hS (lv_sub hl [3, 2, 1, 0] rfl)
