def s_X6_lettersSent_b4 (g : zF) (fO : zF) (to : zF) (gR : zF) (gD : zF) (S : Nat → Nat → zF) (C : Nat → Option Nat) (n : Nat) : Nat → (Int32) → (Int32) → Option Int32
  | 0, _, _ => none
  | n4 + 1, lo1, lo2 => (if (g 5) ≤ lo2 then some (lo1) else (zat n g (lo2) (zl (lo2 + 1) fun (x4 : Int32) => (s_X6_lettersSent_b4 g fO to gR gD S C n n4 (lo1) (x4))) fun (j3 : Nat) => zl ((lo1 + (((S j3 0) 13) + ((S j3 0) 14)))) fun (x5 : Int32) => zl (lo2 + 1) fun (x6 : Int32) => (s_X6_lettersSent_b4 g fO to gR gD S C n n4 (x5) (x6))))
def s_X6_lettersSent (g : zF) (fO : zF) (to : zF) (gR : zF) (gD : zF) (S : Nat → Nat → zF) (C : Nat → Option Nat) (n : Nat) : Option Int32 := (s_X6_lettersSent_b4 g fO to gR gD S C n 13 (0) (0))
abbrev rm_X6_lettersSent : Room := { frames := 1, cells := 0, slots := 0, locals := 21 }
set_option maxHeartbeats 4000000 in
set_option maxRecDepth 100000 in
theorem c_X6_lettersSent (l : Launch) (dD : va_G) (cI cA : ClassId) (q : Nat → Nat) (qq : Nat → Nat → Nat) (n : Nat) (hn12 : n ≤ 12) (g : zF) (fO : zF) (to : zF) (gR : zF) (gD : zF) (S : Nat → Nat → zF) (C : Nat → Option Nat) (rv : Int32) (hsp : s_X6_lettersSent g fO to gR gD S C n = some rv) : zMi l yX6_lettersSent wsX6_lettersSent rm_X6_lettersSent dD cI cA [.ref (q 0)] ([zX q g, zP cA (q 3) (zfm qq n), zA cI (q 4) 144 fO, zA cI (q 5) 12 to, zR (q 2) gR, zD (q 1) gD] ++ zPool cI q qq n S C) ([zX q g, zP cA (q 3) (zfm qq n), zA cI (q 4) 144 fO, zA cI (q 5) 12 to, zR (q 2) gR, zD (q 1) gD] ++ zPool cI q qq n S C) rv := by
  refine zMi_of (cc := cX6_lettersSent) (maxL := 4) (by decide) rfl (Nat.le_of_ble_eq_true rfl) ?_
  intro p e s m args below meth c A Q ls hx hb hml hown hts hK hA hP hD hl hret
  have hown : s.vm.findClass RX6 = some m.cls := hown
  have iX6 : ∀ w ∈ wsX60, w ∈ wsX6_lettersSent := by decide +kernel
  have iX4 : ∀ w ∈ wsX40, w ∈ wsX6_lettersSent := by decide +kernel
  have f53 := hts (.fieldLink RX6 53 "MeshField" "machineCount" "I") (by decide +kernel)
  have f212 : (Cond.fieldLinkNest RX6 212 "MeshField$Machine" "tellsSent" "I" "MeshField").before args s = true := hK.nw (by decide +kernel)
  have f215 : (Cond.fieldLinkNest RX6 215 "MeshField$Machine" "mixesSent" "I" "MeshField").before args s = true := hK.nw (by decide +kernel)
  have hS : va_S A s.heap s.heap [] := va_S.rf
  have hl : lv_has ls 4 [(0, .ref (q 0))] := hl
  have K_4 : ∀ (nf : Nat) (H : Heap) (locs : List Loc) (ls : Array Slot) (lo1 : Int32) (lo2 : Int32), va_P dD vwCl ([zX q g, zP cA (q 3) (zfm qq n), zA cI (q 4) 144 fO, zA cI (q 5) 12 to, zR (q 2) gR, zD (q 1) gD] ++ zPool cI q qq n S C) H → va_D A ([zX q g, zP cA (q 3) (zfm qq n), zA cI (q 4) 144 fO, zA cI (q 5) 12 to, zR (q 2) gR, zD (q 1) gD] ++ zPool cI q qq n S C) → va_S A s.heap H locs → lv_has ls 4 [(0, .ref (q 0)), (1, .int lo1), (2, .int lo2)] → s_X6_lettersSent_b4 g fO to gR gD S C n nf lo1 lo2 = some rv → W p l e rm_X6_lettersSent s m args below meth c H locs 0 0 Q (F0 m 4 ls []) := by
    intro nf
    induction nf with
    | zero =>
      intro H locs ls lo1 lo2 hP hD hS hl hsp
      exact absurd (show (none : Option Int32) = some rv from hsp) (fun h => by cases h)
    | succ n4 ih4 =>
      intro H locs ls lo1 lo2 hP hD hS hl hsp
      rw [s_X6_lettersSent_b4] at hsp
      refine lv_iload_n hx hb dX6_lettersSent_4 rfl (lv_at hl 2 rfl) ?_
      refine lv_aload_n hx hb dX6_lettersSent_5 rfl (lv_at hl 0 rfl) ?_
      refine va_get (D := dD) (ci := 6) (v := .int (g 5)) (C := RX6) (T := TX6) (N := 10) hx hb hts iX6 hown hK.1 hP 0 rfl rfl 5 (by decide) f53 (fun _ h9 => h9) rfl dX6_lettersSent_6 ?_
      refine lv_icmp_ge (tgt := 40) hx hb dX6_lettersSent_9 (by decide) (fun c1 => ?_) (fun c1 => ?_)
      · have hsp := z_t c1 hsp
        refine lv_iload_n hx hb dX6_lettersSent_40 rfl (lv_at hl 1 rfl) ?_
        obtain rfl := Option.some.inj hsp
        exact hret _ _ ls 41 dX6_lettersSent_41 rfl hP hD hS
      · have hsp := z_f c1 hsp
        refine lv_aload_n hx hb dX6_lettersSent_12 rfl (lv_at hl 0 rfl) ?_
        refine lv_iload_n hx hb dX6_lettersSent_13 rfl (lv_at hl 2 rfl) ?_
        rcases z_at (qq := qq) hn12 hsp with ⟨hc2, hsp⟩ | ⟨j3, hj3, ej3, hc2, hsp⟩
        · refine z_callVq ⟨hx, hb, hml, hown, hts⟩ hK (c_X6_machineAt l dD cI cA q g (zfm qq n) (lo2) _ hc2) (cwV 1 hts gX6_lettersSent_X6_machineAt rfl rfl rfl (by decide +kernel) ⟨Nat.le_of_ble_eq_true rfl, Nat.le_of_ble_eq_true rfl⟩) (zJ.ofP (X := [zX q g, zP cA (q 3) (zfm qq n), zA cI (q 4) 144 fO, zA cI (q 5) 12 to, zR (q 2) gR, zD (q 1) gD]) (wc := [zX q g, zP cA (q 3) (zfm qq n)]) (wc1 := [zX q g, zP cA (q 3) (zfm qq n)]) (wr := [zA cI (q 4) 144 fO, zA cI (q 5) 12 to, zR (q 2) gR, zD (q 1) gD]) (w2 := [zX q g, zP cA (q 3) (zfm qq n), zA cI (q 4) 144 fO, zA cI (q 5) 12 to, zR (q 2) gR, zD (q 1) gD]) hP hD hS hA [0, 1] [2, 3, 4, 5] [4, 5, 0, 1, 2, 3] rfl rfl rfl rfl rfl rfl rfl) hS 0 6 rfl rfl rfl rfl hl.1 rfl (Nat.le_of_ble_eq_true rfl) dX6_lettersSent_14 ⟨Nat.zero_le _, Nat.zero_le _⟩ (fun H locs hP hD hS => ?_)
          refine z_topN ?_
          refine lv_astore_nN (lv' := [(3, .null), (0, .ref (q 0)), (1, .int lo1), (2, .int lo2)]) hx hb dX6_lettersSent_17 rfl hl (by decide) rfl (fun ls hl => ?_)
          refine lv_aload_nN hx hb dX6_lettersSent_18 rfl (lv_at hl 0 rfl) ?_
          refine lv_ifnullN (tgt := 34) hx hb dX6_lettersSent_19 (by decide) ?_
          obtain ⟨x4, ex4, hsp⟩ := z_lt hsp
          refine lv_iinc (v := x4) (lv' := [(2, .int x4), (3, .null), (0, .ref (q 0)), (1, .int lo1)]) hx hb dX6_lettersSent_34 hl (k := 3) rfl (by rw [ex4]; rfl) (by decide) rfl (fun ls hl => ?_)
          refine lv_goto (tgt := 4) hx hb dX6_lettersSent_37 (by decide) ?_
          exact ih4 _ _ ls (lo1) (x4) hP hD hS (lv_sub hl [2, 3, 0] rfl) hsp
        · refine z_callVq ⟨hx, hb, hml, hown, hts⟩ hK (c_X6_machineAt l dD cI cA q g (zfm qq n) (lo2) _ hc2) (cwV 1 hts gX6_lettersSent_X6_machineAt rfl rfl rfl (by decide +kernel) ⟨Nat.le_of_ble_eq_true rfl, Nat.le_of_ble_eq_true rfl⟩) (zJ.ofP (X := [zX q g, zP cA (q 3) (zfm qq n), zA cI (q 4) 144 fO, zA cI (q 5) 12 to, zR (q 2) gR, zD (q 1) gD]) (wc := [zX q g, zP cA (q 3) (zfm qq n)]) (wc1 := [zX q g, zP cA (q 3) (zfm qq n)]) (wr := [zA cI (q 4) 144 fO, zA cI (q 5) 12 to, zR (q 2) gR, zD (q 1) gD]) (w2 := [zX q g, zP cA (q 3) (zfm qq n), zA cI (q 4) 144 fO, zA cI (q 5) 12 to, zR (q 2) gR, zD (q 1) gD]) hP hD hS hA [0, 1] [2, 3, 4, 5] [4, 5, 0, 1, 2, 3] rfl rfl rfl rfl rfl rfl rfl) hS 0 6 rfl rfl rfl rfl hl.1 rfl (Nat.le_of_ble_eq_true rfl) dX6_lettersSent_14 ⟨Nat.zero_le _, Nat.zero_le _⟩ (fun H locs hP hD hS => ?_)
          refine z_topR ?_
          refine lv_astore_n (lv' := [(3, .ref (qq j3 0)), (0, .ref (q 0)), (1, .int lo1), (2, .int lo2)]) hx hb dX6_lettersSent_17 rfl hl (by decide) rfl (fun ls hl => ?_)
          refine lv_aload_n hx hb dX6_lettersSent_18 rfl (lv_at hl 0 rfl) ?_
          refine lv_ifnull hx hb dX6_lettersSent_19 ?_
          refine lv_iload_n hx hb dX6_lettersSent_22 rfl (lv_at hl 2 rfl) ?_
          refine lv_aload_n hx hb dX6_lettersSent_23 rfl (lv_at hl 0 rfl) ?_
          obtain ⟨hP, hD⟩ := z_foc (fx := [zX q g, zP cA (q 3) (zfm qq n), zA cI (q 4) 144 fO, zA cI (q 5) 12 to, zR (q 2) gR, zD (q 1) gD]) hj3 hP hD
          have hP : va_P dD vwCl ([zX q g, zP cA (q 3) (zfm qq n), zA cI (q 4) 144 fO, zA cI (q 5) 12 to, zR (q 2) gR, zD (q 1) gD, zM (qq j3) (q 2) (q 1) (zad qq (C j3)) (S j3 0), zB (qq j3) (S j3 1), zA cI (qq j3 2) 12 (S j3 2), zA cI (qq j3 3) 12 (S j3 3), zI (qq j3) (S j3 4), zL (qq j3 5) (S j3 5)] ++ zRest cI q qq n j3 S C) H := hP
          have hD : va_D A ([zX q g, zP cA (q 3) (zfm qq n), zA cI (q 4) 144 fO, zA cI (q 5) 12 to, zR (q 2) gR, zD (q 1) gD, zM (qq j3) (q 2) (q 1) (zad qq (C j3)) (S j3 0), zB (qq j3) (S j3 1), zA cI (qq j3 2) 12 (S j3 2), zA cI (qq j3 3) 12 (S j3 3), zI (qq j3) (S j3 4), zL (qq j3 5) (S j3 5)] ++ zRest cI q qq n j3 S C) := hD
          refine va_getN (D := dD) (ci := 4) (v := .int ((S j3 0) 13)) (C := RX4) (T := TX4) (N := 18) hx hb hts iX4 hown hK.1 hP 6 rfl rfl 13 (by decide) f212 (fun _ h9 => h9) rfl dX6_lettersSent_24 ?_
          refine lv_aload_n hx hb dX6_lettersSent_27 rfl (lv_at hl 0 rfl) ?_
          refine va_getN (D := dD) (ci := 4) (v := .int ((S j3 0) 14)) (C := RX4) (T := TX4) (N := 18) hx hb hts iX4 hown hK.1 hP 6 rfl rfl 14 (by decide) f215 (fun _ h9 => h9) rfl dX6_lettersSent_28 ?_
          refine lv_iadd hx hb dX6_lettersSent_31 ?_
          refine lv_iadd hx hb dX6_lettersSent_32 ?_
          obtain ⟨x5, ex5, hsp⟩ := z_lt hsp
          refine z_top ex5 ?_
          refine lv_istore_n (lv' := [(1, .int x5), (3, .ref (qq j3 0)), (0, .ref (q 0)), (2, .int lo2)]) hx hb dX6_lettersSent_33 rfl hl (by decide) rfl (fun ls hl => ?_)
          obtain ⟨x6, ex6, hsp⟩ := z_lt hsp
          refine lv_iinc (v := x6) (lv' := [(2, .int x6), (1, .int x5), (3, .ref (qq j3 0)), (0, .ref (q 0))]) hx hb dX6_lettersSent_34 hl (k := 3) rfl (by rw [ex6]; rfl) (by decide) rfl (fun ls hl => ?_)
          refine lv_goto (tgt := 4) hx hb dX6_lettersSent_37 (by decide) ?_
          obtain ⟨hP, hD⟩ := z_unf0 [zX q g, zP cA (q 3) (zfm qq n), zA cI (q 4) 144 fO, zA cI (q 5) 12 to, zR (q 2) gR, zD (q 1) gD] hj3 hP hD
          have hP : va_P dD vwCl ([zX q g, zP cA (q 3) (zfm qq n), zA cI (q 4) 144 fO, zA cI (q 5) 12 to, zR (q 2) gR, zD (q 1) gD] ++ zPool cI q qq n S C) H := hP
          have hD : va_D A ([zX q g, zP cA (q 3) (zfm qq n), zA cI (q 4) 144 fO, zA cI (q 5) 12 to, zR (q 2) gR, zD (q 1) gD] ++ zPool cI q qq n S C) := hD
          exact ih4 _ _ ls (x5) (x6) hP hD hS (lv_sub hl [3, 1, 0] rfl) hsp
  unfold s_X6_lettersSent at hsp
  refine lv_iconst (v := 0) hx hb dX6_lettersSent_0 (by decide) ?_
  refine lv_istore_n (lv' := [(1, .int 0), (0, .ref (q 0))]) hx hb dX6_lettersSent_1 rfl hl (by decide) rfl (fun ls hl => ?_)
  refine lv_iconst (v := 0) hx hb dX6_lettersSent_2 (by decide) ?_
  refine lv_istore_n (lv' := [(2, .int 0), (1, .int 0), (0, .ref (q 0))]) hx hb dX6_lettersSent_3 rfl hl (by decide) rfl (fun ls hl => ?_)
  exact K_4 13 _ _ ls (0) (0) hP hD hS (lv_sub hl [2, 1, 0] rfl) hsp
def s_X6_runnersOfGreatest_b4 (g : zF) (fO : zF) (to : zF) (gR : zF) (gD : zF) (S : Nat → Nat → zF) (C : Nat → Option Nat) (n : Nat) : Nat → (Int32) → (Int32) → Option Int32
  | 0, _, _ => none
  | n4 + 1, lo1, lo2 => (if (g 5) ≤ lo2 then some (lo1) else (zat n g (lo2) (zl (lo2 + 1) fun (x4 : Int32) => (s_X6_runnersOfGreatest_b4 g fO to gR gD S C n n4 (lo1) (x4))) fun (j3 : Nat) => (if (g 8) = 0 then zl (lo2 + 1) fun (x6 : Int32) => (s_X6_runnersOfGreatest_b4 g fO to gR gD S C n n4 (lo1) (x6)) else (if ((S j3 0) 9) = (g 8) then zl (lo1 + 1) fun (x9 : Int32) => zl (lo2 + 1) fun (x10 : Int32) => (s_X6_runnersOfGreatest_b4 g fO to gR gD S C n n4 (x9) (x10)) else zl (lo2 + 1) fun (x8 : Int32) => (s_X6_runnersOfGreatest_b4 g fO to gR gD S C n n4 (lo1) (x8))))))
def s_X6_runnersOfGreatest (g : zF) (fO : zF) (to : zF) (gR : zF) (gD : zF) (S : Nat → Nat → zF) (C : Nat → Option Nat) (n : Nat) : Option Int32 := (s_X6_runnersOfGreatest_b4 g fO to gR gD S C n 13 (0) (0))
abbrev rm_X6_runnersOfGreatest : Room := { frames := 1, cells := 0, slots := 0, locals := 21 }
set_option maxHeartbeats 4000000 in
set_option maxRecDepth 100000 in
theorem c_X6_runnersOfGreatest (l : Launch) (dD : va_G) (cI cA : ClassId) (q : Nat → Nat) (qq : Nat → Nat → Nat) (n : Nat) (hn12 : n ≤ 12) (g : zF) (fO : zF) (to : zF) (gR : zF) (gD : zF) (S : Nat → Nat → zF) (C : Nat → Option Nat) (rv : Int32) (hsp : s_X6_runnersOfGreatest g fO to gR gD S C n = some rv) : zMi l yX6_runnersOfGreatest wsX6_runnersOfGreatest rm_X6_runnersOfGreatest dD cI cA [.ref (q 0)] ([zX q g, zP cA (q 3) (zfm qq n), zA cI (q 4) 144 fO, zA cI (q 5) 12 to, zR (q 2) gR, zD (q 1) gD] ++ zPool cI q qq n S C) ([zX q g, zP cA (q 3) (zfm qq n), zA cI (q 4) 144 fO, zA cI (q 5) 12 to, zR (q 2) gR, zD (q 1) gD] ++ zPool cI q qq n S C) rv := by
  refine zMi_of (cc := cX6_runnersOfGreatest) (maxL := 4) (by decide) rfl (Nat.le_of_ble_eq_true rfl) ?_
  intro p e s m args below meth c A Q ls hx hb hml hown hts hK hA hP hD hl hret
  have hown : s.vm.findClass RX6 = some m.cls := hown
  have iX6 : ∀ w ∈ wsX60, w ∈ wsX6_runnersOfGreatest := by decide +kernel
  have iX4 : ∀ w ∈ wsX40, w ∈ wsX6_runnersOfGreatest := by decide +kernel
  have f53 := hts (.fieldLink RX6 53 "MeshField" "machineCount" "I") (by decide +kernel)
  have f106 := hts (.fieldLink RX6 106 "MeshField" "greatestNumber" "I") (by decide +kernel)
  have f218 : (Cond.fieldLinkNest RX6 218 "MeshField$Machine" "runs" "I" "MeshField").before args s = true := hK.nw (by decide +kernel)
  have hS : va_S A s.heap s.heap [] := va_S.rf
  have hl : lv_has ls 4 [(0, .ref (q 0))] := hl
  have K_4 : ∀ (nf : Nat) (H : Heap) (locs : List Loc) (ls : Array Slot) (lo1 : Int32) (lo2 : Int32), va_P dD vwCl ([zX q g, zP cA (q 3) (zfm qq n), zA cI (q 4) 144 fO, zA cI (q 5) 12 to, zR (q 2) gR, zD (q 1) gD] ++ zPool cI q qq n S C) H → va_D A ([zX q g, zP cA (q 3) (zfm qq n), zA cI (q 4) 144 fO, zA cI (q 5) 12 to, zR (q 2) gR, zD (q 1) gD] ++ zPool cI q qq n S C) → va_S A s.heap H locs → lv_has ls 4 [(0, .ref (q 0)), (1, .int lo1), (2, .int lo2)] → s_X6_runnersOfGreatest_b4 g fO to gR gD S C n nf lo1 lo2 = some rv → W p l e rm_X6_runnersOfGreatest s m args below meth c H locs 0 0 Q (F0 m 4 ls []) := by
    intro nf
    induction nf with
    | zero =>
      intro H locs ls lo1 lo2 hP hD hS hl hsp
      exact absurd (show (none : Option Int32) = some rv from hsp) (fun h => by cases h)
    | succ n4 ih4 =>
      intro H locs ls lo1 lo2 hP hD hS hl hsp
      rw [s_X6_runnersOfGreatest_b4] at hsp
      refine lv_iload_n hx hb dX6_runnersOfGreatest_4 rfl (lv_at hl 2 rfl) ?_
      refine lv_aload_n hx hb dX6_runnersOfGreatest_5 rfl (lv_at hl 0 rfl) ?_
      refine va_get (D := dD) (ci := 6) (v := .int (g 5)) (C := RX6) (T := TX6) (N := 10) hx hb hts iX6 hown hK.1 hP 0 rfl rfl 5 (by decide) f53 (fun _ h9 => h9) rfl dX6_runnersOfGreatest_6 ?_
      refine lv_icmp_ge (tgt := 49) hx hb dX6_runnersOfGreatest_9 (by decide) (fun c1 => ?_) (fun c1 => ?_)
      · have hsp := z_t c1 hsp
        refine lv_iload_n hx hb dX6_runnersOfGreatest_49 rfl (lv_at hl 1 rfl) ?_
        obtain rfl := Option.some.inj hsp
        exact hret _ _ ls 50 dX6_runnersOfGreatest_50 rfl hP hD hS
      · have hsp := z_f c1 hsp
        refine lv_aload_n hx hb dX6_runnersOfGreatest_12 rfl (lv_at hl 0 rfl) ?_
        refine lv_iload_n hx hb dX6_runnersOfGreatest_13 rfl (lv_at hl 2 rfl) ?_
        rcases z_at (qq := qq) hn12 hsp with ⟨hc2, hsp⟩ | ⟨j3, hj3, ej3, hc2, hsp⟩
        · refine z_callVq ⟨hx, hb, hml, hown, hts⟩ hK (c_X6_machineAt l dD cI cA q g (zfm qq n) (lo2) _ hc2) (cwV 1 hts gX6_runnersOfGreatest_X6_machineAt rfl rfl rfl (by decide +kernel) ⟨Nat.le_of_ble_eq_true rfl, Nat.le_of_ble_eq_true rfl⟩) (zJ.ofP (X := [zX q g, zP cA (q 3) (zfm qq n), zA cI (q 4) 144 fO, zA cI (q 5) 12 to, zR (q 2) gR, zD (q 1) gD]) (wc := [zX q g, zP cA (q 3) (zfm qq n)]) (wc1 := [zX q g, zP cA (q 3) (zfm qq n)]) (wr := [zA cI (q 4) 144 fO, zA cI (q 5) 12 to, zR (q 2) gR, zD (q 1) gD]) (w2 := [zX q g, zP cA (q 3) (zfm qq n), zA cI (q 4) 144 fO, zA cI (q 5) 12 to, zR (q 2) gR, zD (q 1) gD]) hP hD hS hA [0, 1] [2, 3, 4, 5] [4, 5, 0, 1, 2, 3] rfl rfl rfl rfl rfl rfl rfl) hS 0 6 rfl rfl rfl rfl hl.1 rfl (Nat.le_of_ble_eq_true rfl) dX6_runnersOfGreatest_14 ⟨Nat.zero_le _, Nat.zero_le _⟩ (fun H locs hP hD hS => ?_)
          refine z_topN ?_
          refine lv_astore_nN (lv' := [(3, .null), (0, .ref (q 0)), (1, .int lo1), (2, .int lo2)]) hx hb dX6_runnersOfGreatest_17 rfl hl (by decide) rfl (fun ls hl => ?_)
          refine lv_aload_nN hx hb dX6_runnersOfGreatest_18 rfl (lv_at hl 0 rfl) ?_
          refine lv_ifnullN (tgt := 43) hx hb dX6_runnersOfGreatest_19 (by decide) ?_
          obtain ⟨x4, ex4, hsp⟩ := z_lt hsp
          refine lv_iinc (v := x4) (lv' := [(2, .int x4), (3, .null), (0, .ref (q 0)), (1, .int lo1)]) hx hb dX6_runnersOfGreatest_43 hl (k := 3) rfl (by rw [ex4]; rfl) (by decide) rfl (fun ls hl => ?_)
          refine lv_goto (tgt := 4) hx hb dX6_runnersOfGreatest_46 (by decide) ?_
          exact ih4 _ _ ls (lo1) (x4) hP hD hS (lv_sub hl [2, 3, 0] rfl) hsp
        · refine z_callVq ⟨hx, hb, hml, hown, hts⟩ hK (c_X6_machineAt l dD cI cA q g (zfm qq n) (lo2) _ hc2) (cwV 1 hts gX6_runnersOfGreatest_X6_machineAt rfl rfl rfl (by decide +kernel) ⟨Nat.le_of_ble_eq_true rfl, Nat.le_of_ble_eq_true rfl⟩) (zJ.ofP (X := [zX q g, zP cA (q 3) (zfm qq n), zA cI (q 4) 144 fO, zA cI (q 5) 12 to, zR (q 2) gR, zD (q 1) gD]) (wc := [zX q g, zP cA (q 3) (zfm qq n)]) (wc1 := [zX q g, zP cA (q 3) (zfm qq n)]) (wr := [zA cI (q 4) 144 fO, zA cI (q 5) 12 to, zR (q 2) gR, zD (q 1) gD]) (w2 := [zX q g, zP cA (q 3) (zfm qq n), zA cI (q 4) 144 fO, zA cI (q 5) 12 to, zR (q 2) gR, zD (q 1) gD]) hP hD hS hA [0, 1] [2, 3, 4, 5] [4, 5, 0, 1, 2, 3] rfl rfl rfl rfl rfl rfl rfl) hS 0 6 rfl rfl rfl rfl hl.1 rfl (Nat.le_of_ble_eq_true rfl) dX6_runnersOfGreatest_14 ⟨Nat.zero_le _, Nat.zero_le _⟩ (fun H locs hP hD hS => ?_)
          refine z_topR ?_
          refine lv_astore_n (lv' := [(3, .ref (qq j3 0)), (0, .ref (q 0)), (1, .int lo1), (2, .int lo2)]) hx hb dX6_runnersOfGreatest_17 rfl hl (by decide) rfl (fun ls hl => ?_)
          refine lv_aload_n hx hb dX6_runnersOfGreatest_18 rfl (lv_at hl 0 rfl) ?_
          refine lv_ifnull hx hb dX6_runnersOfGreatest_19 ?_
          refine lv_aload_n hx hb dX6_runnersOfGreatest_22 rfl (lv_at hl 1 rfl) ?_
          refine va_get (D := dD) (ci := 6) (v := .int (g 8)) (C := RX6) (T := TX6) (N := 10) hx hb hts iX6 hown hK.1 hP 0 rfl rfl 8 (by decide) f106 (fun _ h9 => h9) rfl dX6_runnersOfGreatest_23 ?_
          refine lv_if_eq (tgt := 43) hx hb dX6_runnersOfGreatest_26 (by decide) (fun c5 => ?_) (fun c5 => ?_)
          · have hsp := z_t c5 hsp
            obtain ⟨x6, ex6, hsp⟩ := z_lt hsp
            refine lv_iinc (v := x6) (lv' := [(2, .int x6), (3, .ref (qq j3 0)), (0, .ref (q 0)), (1, .int lo1)]) hx hb dX6_runnersOfGreatest_43 hl (k := 3) rfl (by rw [ex6]; rfl) (by decide) rfl (fun ls hl => ?_)
            refine lv_goto (tgt := 4) hx hb dX6_runnersOfGreatest_46 (by decide) ?_
            exact ih4 _ _ ls (lo1) (x6) hP hD hS (lv_sub hl [2, 3, 0] rfl) hsp
          · have hsp := z_f c5 hsp
            refine lv_aload_n hx hb dX6_runnersOfGreatest_29 rfl (lv_at hl 0 rfl) ?_
            obtain ⟨hP, hD⟩ := z_foc (fx := [zX q g, zP cA (q 3) (zfm qq n), zA cI (q 4) 144 fO, zA cI (q 5) 12 to, zR (q 2) gR, zD (q 1) gD]) hj3 hP hD
            have hP : va_P dD vwCl ([zX q g, zP cA (q 3) (zfm qq n), zA cI (q 4) 144 fO, zA cI (q 5) 12 to, zR (q 2) gR, zD (q 1) gD, zM (qq j3) (q 2) (q 1) (zad qq (C j3)) (S j3 0), zB (qq j3) (S j3 1), zA cI (qq j3 2) 12 (S j3 2), zA cI (qq j3 3) 12 (S j3 3), zI (qq j3) (S j3 4), zL (qq j3 5) (S j3 5)] ++ zRest cI q qq n j3 S C) H := hP
            have hD : va_D A ([zX q g, zP cA (q 3) (zfm qq n), zA cI (q 4) 144 fO, zA cI (q 5) 12 to, zR (q 2) gR, zD (q 1) gD, zM (qq j3) (q 2) (q 1) (zad qq (C j3)) (S j3 0), zB (qq j3) (S j3 1), zA cI (qq j3 2) 12 (S j3 2), zA cI (qq j3 3) 12 (S j3 3), zI (qq j3) (S j3 4), zL (qq j3 5) (S j3 5)] ++ zRest cI q qq n j3 S C) := hD
            refine va_getN (D := dD) (ci := 4) (v := .int ((S j3 0) 9)) (C := RX4) (T := TX4) (N := 18) hx hb hts iX4 hown hK.1 hP 6 rfl rfl 9 (by decide) f218 (fun _ h9 => h9) rfl dX6_runnersOfGreatest_30 ?_
            refine lv_aload_n hx hb dX6_runnersOfGreatest_33 rfl (lv_at hl 1 rfl) ?_
            refine va_get (D := dD) (ci := 6) (v := .int (g 8)) (C := RX6) (T := TX6) (N := 10) hx hb hts iX6 hown hK.1 hP 0 rfl rfl 8 (by decide) f106 (fun _ h9 => h9) rfl dX6_runnersOfGreatest_34 ?_
            refine lv_icmp_ne (tgt := 43) hx hb dX6_runnersOfGreatest_37 (by decide) (fun c7 => ?_) (fun c7 => ?_)
            · have hsp := z_f c7 hsp
              obtain ⟨x8, ex8, hsp⟩ := z_lt hsp
              refine lv_iinc (v := x8) (lv' := [(2, .int x8), (3, .ref (qq j3 0)), (0, .ref (q 0)), (1, .int lo1)]) hx hb dX6_runnersOfGreatest_43 hl (k := 3) rfl (by rw [ex8]; rfl) (by decide) rfl (fun ls hl => ?_)
              refine lv_goto (tgt := 4) hx hb dX6_runnersOfGreatest_46 (by decide) ?_
              obtain ⟨hP, hD⟩ := z_unf0 [zX q g, zP cA (q 3) (zfm qq n), zA cI (q 4) 144 fO, zA cI (q 5) 12 to, zR (q 2) gR, zD (q 1) gD] hj3 hP hD
              have hP : va_P dD vwCl ([zX q g, zP cA (q 3) (zfm qq n), zA cI (q 4) 144 fO, zA cI (q 5) 12 to, zR (q 2) gR, zD (q 1) gD] ++ zPool cI q qq n S C) H := hP
              have hD : va_D A ([zX q g, zP cA (q 3) (zfm qq n), zA cI (q 4) 144 fO, zA cI (q 5) 12 to, zR (q 2) gR, zD (q 1) gD] ++ zPool cI q qq n S C) := hD
              exact ih4 _ _ ls (lo1) (x8) hP hD hS (lv_sub hl [2, 3, 0] rfl) hsp
            · have hsp := z_t c7 hsp
              obtain ⟨x9, ex9, hsp⟩ := z_lt hsp
              refine lv_iinc (v := x9) (lv' := [(1, .int x9), (3, .ref (qq j3 0)), (0, .ref (q 0)), (2, .int lo2)]) hx hb dX6_runnersOfGreatest_40 hl (k := 2) rfl (by rw [ex9]; rfl) (by decide) rfl (fun ls hl => ?_)
              obtain ⟨x10, ex10, hsp⟩ := z_lt hsp
              refine lv_iinc (v := x10) (lv' := [(2, .int x10), (1, .int x9), (3, .ref (qq j3 0)), (0, .ref (q 0))]) hx hb dX6_runnersOfGreatest_43 hl (k := 3) rfl (by rw [ex10]; rfl) (by decide) rfl (fun ls hl => ?_)
              refine lv_goto (tgt := 4) hx hb dX6_runnersOfGreatest_46 (by decide) ?_
              obtain ⟨hP, hD⟩ := z_unf0 [zX q g, zP cA (q 3) (zfm qq n), zA cI (q 4) 144 fO, zA cI (q 5) 12 to, zR (q 2) gR, zD (q 1) gD] hj3 hP hD
              have hP : va_P dD vwCl ([zX q g, zP cA (q 3) (zfm qq n), zA cI (q 4) 144 fO, zA cI (q 5) 12 to, zR (q 2) gR, zD (q 1) gD] ++ zPool cI q qq n S C) H := hP
              have hD : va_D A ([zX q g, zP cA (q 3) (zfm qq n), zA cI (q 4) 144 fO, zA cI (q 5) 12 to, zR (q 2) gR, zD (q 1) gD] ++ zPool cI q qq n S C) := hD
              exact ih4 _ _ ls (x9) (x10) hP hD hS (lv_sub hl [3, 1, 0] rfl) hsp
  unfold s_X6_runnersOfGreatest at hsp
  refine lv_iconst (v := 0) hx hb dX6_runnersOfGreatest_0 (by decide) ?_
  refine lv_istore_n (lv' := [(1, .int 0), (0, .ref (q 0))]) hx hb dX6_runnersOfGreatest_1 rfl hl (by decide) rfl (fun ls hl => ?_)
  refine lv_iconst (v := 0) hx hb dX6_runnersOfGreatest_2 (by decide) ?_
  refine lv_istore_n (lv' := [(2, .int 0), (1, .int 0), (0, .ref (q 0))]) hx hb dX6_runnersOfGreatest_3 rfl hl (by decide) rfl (fun ls hl => ?_)
  exact K_4 13 _ _ ls (0) (0) hP hD hS (lv_sub hl [2, 1, 0] rfl) hsp
def s_X6_about (g : zF) (fO : zF) (to : zF) (gR : zF) (gD : zF) (S : Nat → Nat → zF) (C : Nat → Option Nat) (n : Nat) (p1 : Int32) : Option Int32 := (if p1 = 0 then some ((g 5)) else (if p1 = 1 then some ((g 7)) else (if p1 = 2 then zb1 (s_X6_lettersSent g fO to gR gD S C n) fun (v4 : Int32) => some (v4) else (if p1 = 3 then zb1 (s_X6_runnersOfGreatest g fO to gR gD S C n) fun (v7 : Int32) => some (v7) else (if p1 = 4 then some ((g 6)) else (if p1 = 5 then some ((g 9)) else some ((-1))))))))
abbrev rm_X6_about : Room := { frames := 2, cells := 0, slots := 0, locals := 44 }
set_option maxHeartbeats 4000000 in
set_option maxRecDepth 100000 in
theorem c_X6_about (l : Launch) (dD : va_G) (cI cA : ClassId) (q : Nat → Nat) (qq : Nat → Nat → Nat) (n : Nat) (hn12 : n ≤ 12) (g : zF) (fO : zF) (to : zF) (gR : zF) (gD : zF) (S : Nat → Nat → zF) (C : Nat → Option Nat) (p1 : Int32) (rv : Int32) (hsp : s_X6_about g fO to gR gD S C n p1 = some rv) : zMi l yX6_about wsX6_about rm_X6_about dD cI cA [.ref (q 0), .int p1] ([zX q g, zP cA (q 3) (zfm qq n), zA cI (q 4) 144 fO, zA cI (q 5) 12 to, zR (q 2) gR, zD (q 1) gD] ++ zPool cI q qq n S C) ([zX q g, zP cA (q 3) (zfm qq n), zA cI (q 4) 144 fO, zA cI (q 5) 12 to, zR (q 2) gR, zD (q 1) gD] ++ zPool cI q qq n S C) rv := by
  refine zMi_of (cc := cX6_about) (maxL := 2) (by decide) rfl (Nat.le_of_ble_eq_true rfl) ?_
  intro p e s m args below meth c A Q ls hx hb hml hown hts hK hA hP hD hl hret
  have hown : s.vm.findClass RX6 = some m.cls := hown
  have iX6 : ∀ w ∈ wsX60, w ∈ wsX6_about := by decide +kernel
  have f53 := hts (.fieldLink RX6 53 "MeshField" "machineCount" "I") (by decide +kernel)
  have f75 := hts (.fieldLink RX6 75 "MeshField" "now" "I") (by decide +kernel)
  have f92 := hts (.fieldLink RX6 92 "MeshField" "toldCount" "I") (by decide +kernel)
  have f42 := hts (.fieldLink RX6 42 "MeshField" "allWholeAt" "I") (by decide +kernel)
  have hS : va_S A s.heap s.heap [] := va_S.rf
  have hl : lv_has ls 2 [(0, .ref (q 0)), (1, .int p1)] := hl
  unfold s_X6_about at hsp
  refine lv_iload_n hx hb dX6_about_0 rfl (lv_at hl 1 rfl) ?_
  by_cases c1 : p1 = 0
  · have hsp := z_t c1 hsp
    refine lv_tableIn (tgt := 40) (off := 39) hx hb dX6_about_1 (by rw [c1]; decide) (by rw [c1]; decide) (by rw [c1]; rfl) (by decide) ?_
    refine lv_aload_n hx hb dX6_about_40 rfl (lv_at hl 0 rfl) ?_
    refine va_get (D := dD) (ci := 6) (v := .int (g 5)) (C := RX6) (T := TX6) (N := 10) hx hb hts iX6 hown hK.1 hP 0 rfl rfl 5 (by decide) f53 (fun _ h9 => h9) rfl dX6_about_41 ?_
    obtain rfl := Option.some.inj hsp
    exact hret _ _ ls 44 dX6_about_44 rfl hP hD hS
  have hsp := z_f c1 hsp
  by_cases c2 : p1 = 1
  · have hsp := z_t c2 hsp
    refine lv_tableIn (tgt := 45) (off := 44) hx hb dX6_about_1 (by rw [c2]; decide) (by rw [c2]; decide) (by rw [c2]; rfl) (by decide) ?_
    refine lv_aload_n hx hb dX6_about_45 rfl (lv_at hl 0 rfl) ?_
    refine va_get (D := dD) (ci := 6) (v := .int (g 7)) (C := RX6) (T := TX6) (N := 10) hx hb hts iX6 hown hK.1 hP 0 rfl rfl 7 (by decide) f75 (fun _ h9 => h9) rfl dX6_about_46 ?_
    obtain rfl := Option.some.inj hsp
    exact hret _ _ ls 49 dX6_about_49 rfl hP hD hS
  have hsp := z_f c2 hsp
  by_cases c3 : p1 = 2
  · have hsp := z_t c3 hsp
    refine lv_tableIn (tgt := 50) (off := 49) hx hb dX6_about_1 (by rw [c3]; decide) (by rw [c3]; decide) (by rw [c3]; rfl) (by decide) ?_
    refine lv_aload_n hx hb dX6_about_50 rfl (lv_at hl 0 rfl) ?_
    obtain ⟨v4, hc5, hsp⟩ := z_b1 hsp
    refine z_callVi ⟨hx, hb, hml, hown, hts⟩ hK (c_X6_lettersSent l dD cI cA q qq n hn12 g fO to gR gD S C v4 hc5) (cwV 0 hts gX6_about_X6_lettersSent rfl rfl rfl (by decide +kernel) ⟨Nat.le_of_ble_eq_true rfl, Nat.le_of_ble_eq_true rfl⟩) (zJ.full hP hD hS hA) hS 0 6 rfl rfl rfl rfl hl.1 rfl (Nat.le_of_ble_eq_true rfl) dX6_about_51 ⟨Nat.zero_le _, Nat.zero_le _⟩ (fun H locs hP hD hS => ?_)
    obtain rfl := Option.some.inj hsp
    exact hret _ _ ls 54 dX6_about_54 rfl hP hD hS
  have hsp := z_f c3 hsp
  by_cases c6 : p1 = 3
  · have hsp := z_t c6 hsp
    refine lv_tableIn (tgt := 55) (off := 54) hx hb dX6_about_1 (by rw [c6]; decide) (by rw [c6]; decide) (by rw [c6]; rfl) (by decide) ?_
    refine lv_aload_n hx hb dX6_about_55 rfl (lv_at hl 0 rfl) ?_
    obtain ⟨v7, hc8, hsp⟩ := z_b1 hsp
    refine z_callVi ⟨hx, hb, hml, hown, hts⟩ hK (c_X6_runnersOfGreatest l dD cI cA q qq n hn12 g fO to gR gD S C v7 hc8) (cwV 0 hts gX6_about_X6_runnersOfGreatest rfl rfl rfl (by decide +kernel) ⟨Nat.le_of_ble_eq_true rfl, Nat.le_of_ble_eq_true rfl⟩) (zJ.full hP hD hS hA) hS 0 6 rfl rfl rfl rfl hl.1 rfl (Nat.le_of_ble_eq_true rfl) dX6_about_56 ⟨Nat.zero_le _, Nat.zero_le _⟩ (fun H locs hP hD hS => ?_)
    obtain rfl := Option.some.inj hsp
    exact hret _ _ ls 59 dX6_about_59 rfl hP hD hS
  have hsp := z_f c6 hsp
  by_cases c9 : p1 = 4
  · have hsp := z_t c9 hsp
    refine lv_tableIn (tgt := 60) (off := 59) hx hb dX6_about_1 (by rw [c9]; decide) (by rw [c9]; decide) (by rw [c9]; rfl) (by decide) ?_
    refine lv_aload_n hx hb dX6_about_60 rfl (lv_at hl 0 rfl) ?_
    refine va_get (D := dD) (ci := 6) (v := .int (g 6)) (C := RX6) (T := TX6) (N := 10) hx hb hts iX6 hown hK.1 hP 0 rfl rfl 6 (by decide) f92 (fun _ h9 => h9) rfl dX6_about_61 ?_
    obtain rfl := Option.some.inj hsp
    exact hret _ _ ls 64 dX6_about_64 rfl hP hD hS
  have hsp := z_f c9 hsp
  by_cases c10 : p1 = 5
  · have hsp := z_t c10 hsp
    refine lv_tableIn (tgt := 65) (off := 64) hx hb dX6_about_1 (by rw [c10]; decide) (by rw [c10]; decide) (by rw [c10]; rfl) (by decide) ?_
    refine lv_aload_n hx hb dX6_about_65 rfl (lv_at hl 0 rfl) ?_
    refine va_get (D := dD) (ci := 6) (v := .int (g 9)) (C := RX6) (T := TX6) (N := 10) hx hb hts iX6 hown hK.1 hP 0 rfl rfl 9 (by decide) f42 (fun _ h9 => h9) rfl dX6_about_66 ?_
    obtain rfl := Option.some.inj hsp
    exact hret _ _ ls 69 dX6_about_69 rfl hP hD hS
  have hsp := z_f c10 hsp
  refine lv_tableOut (tgt := 70) hx hb dX6_about_1 (by have g0 := lv_neT (a := 0) c1 rfl; have g1 := lv_neT (a := 1) c2 rfl; have g2 := lv_neT (a := 2) c3 rfl; have g3 := lv_neT (a := 3) c6 rfl; have g4 := lv_neT (a := 4) c9 rfl; have g5 := lv_neT (a := 5) c10 rfl; omega) (by decide) ?_
  refine lv_iconst (v := (-1)) hx hb dX6_about_70 (by decide) ?_
  obtain rfl := Option.some.inj hsp
  exact hret _ _ ls 71 dX6_about_71 rfl hP hD hS
def s_X6_sendLetters_b2 (g : zF) (fO : zF) (to : zF) (gR : zF) (C : Nat → Option Nat) (n : Nat) : Nat → (zF) → (Nat → Nat → zF) → (Int32) → Option ((zF) × (Nat → Nat → zF))
  | 0, _, _, _ => none
  | n2 + 1, gD_, S_, lo1 => (if (g 5) ≤ lo1 then some (gD_, S_) else (zat n g (lo1) (zl (lo1 + 1) fun (x4 : Int32) => (s_X6_sendLetters_b2 g fO to gR C n n2 gD_ S_ (x4))) fun (j3 : Nat) => zb3 (s_X4_send (S_ j3 0) (S_ j3 1) (S_ j3 2) (S_ j3 3) (S_ j3 4) (S_ j3 5) gR gD_ ((g 7))) fun (gM5 : zF) (gL6 : zF) (gD7 : zF) => zl (lo1 + 1) fun (x9 : Int32) => zl (va_up S_ j3 (zs6 gM5 (S_ j3 1) (S_ j3 2) (S_ j3 3) (S_ j3 4) gL6)) fun (S10 : Nat → Nat → zF) => (s_X6_sendLetters_b2 g fO to gR C n n2 gD7 S10 (x9))))
def s_X6_sendLetters (g : zF) (fO : zF) (to : zF) (gR : zF) (gD : zF) (S : Nat → Nat → zF) (C : Nat → Option Nat) (n : Nat) : Option ((zF) × (Nat → Nat → zF)) := (s_X6_sendLetters_b2 g fO to gR C n 13 gD S (0))
abbrev rm_X6_sendLetters : Room := { frames := 4, cells := 0, slots := 0, locals := 91 }
set_option maxHeartbeats 4000000 in
set_option maxRecDepth 100000 in
theorem c_X6_sendLetters (l : Launch) (dD : va_G) (cI cA : ClassId) (q : Nat → Nat) (qq : Nat → Nat → Nat) (n : Nat) (hn12 : n ≤ 12) (g : zF) (fO : zF) (to : zF) (gR : zF) (gD : zF) (S : Nat → Nat → zF) (C : Nat → Option Nat) (r_gD : zF) (r_S : Nat → Nat → zF) (hsp : s_X6_sendLetters g fO to gR gD S C n = some (r_gD, r_S)) : zMv l yX6_sendLetters wsX6_sendLetters rm_X6_sendLetters dD cI cA [.ref (q 0)] ([zX q g, zP cA (q 3) (zfm qq n), zA cI (q 4) 144 fO, zA cI (q 5) 12 to, zR (q 2) gR, zD (q 1) gD] ++ zPool cI q qq n S C) ([zX q g, zP cA (q 3) (zfm qq n), zA cI (q 4) 144 fO, zA cI (q 5) 12 to, zR (q 2) gR, zD (q 1) r_gD] ++ zPool cI q qq n r_S C) := by
  refine zMv_of (cc := cX6_sendLetters) (maxL := 3) (by decide) rfl (Nat.le_of_ble_eq_true rfl) ?_
  intro p e s m args below meth c A Q ls hx hb hml hown hts hK hA hP hD hl hret
  have hown : s.vm.findClass RX6 = some m.cls := hown
  have iX6 : ∀ w ∈ wsX60, w ∈ wsX6_sendLetters := by decide +kernel
  have f53 := hts (.fieldLink RX6 53 "MeshField" "machineCount" "I") (by decide +kernel)
  have f75 := hts (.fieldLink RX6 75 "MeshField" "now" "I") (by decide +kernel)
  have hS : va_S A s.heap s.heap [] := va_S.rf
  have hl : lv_has ls 3 [(0, .ref (q 0))] := hl
  have K_2 : ∀ (nf : Nat) (H : Heap) (locs : List Loc) (ls : Array Slot) (gD_ : zF) (S_ : Nat → Nat → zF) (lo1 : Int32), va_P dD vwCl ([zX q g, zP cA (q 3) (zfm qq n), zA cI (q 4) 144 fO, zA cI (q 5) 12 to, zR (q 2) gR, zD (q 1) gD_] ++ zPool cI q qq n S_ C) H → va_D A ([zX q g, zP cA (q 3) (zfm qq n), zA cI (q 4) 144 fO, zA cI (q 5) 12 to, zR (q 2) gR, zD (q 1) gD_] ++ zPool cI q qq n S_ C) → va_S A s.heap H locs → lv_has ls 3 [(0, .ref (q 0)), (1, .int lo1)] → s_X6_sendLetters_b2 g fO to gR C n nf gD_ S_ lo1 = some (r_gD, r_S) → W p l e rm_X6_sendLetters s m args below meth c H locs 0 0 Q (F0 m 2 ls []) := by
    intro nf
    induction nf with
    | zero =>
      intro H locs ls gD_ S_ lo1 hP hD hS hl hsp
      exact absurd (show (none : Option ((zF) × (Nat → Nat → zF))) = some (r_gD, r_S) from hsp) (fun h => by cases h)
    | succ n2 ih2 =>
      intro H locs ls gD_ S_ lo1 hP hD hS hl hsp
      rw [s_X6_sendLetters_b2] at hsp
      refine lv_iload_n hx hb dX6_sendLetters_2 rfl (lv_at hl 1 rfl) ?_
      refine lv_aload_n hx hb dX6_sendLetters_3 rfl (lv_at hl 0 rfl) ?_
      refine va_get (D := dD) (ci := 6) (v := .int (g 5)) (C := RX6) (T := TX6) (N := 10) hx hb hts iX6 hown hK.1 hP 0 rfl rfl 5 (by decide) f53 (fun _ h9 => h9) rfl dX6_sendLetters_4 ?_
      refine lv_icmp_ge (tgt := 34) hx hb dX6_sendLetters_7 (by decide) (fun c1 => ?_) (fun c1 => ?_)
      · have hsp := z_t c1 hsp
        obtain ⟨rfl, rfl⟩ := z_i2 hsp
        exact hret _ _ ls 34 dX6_sendLetters_34 hP hD hS
      · have hsp := z_f c1 hsp
        refine lv_aload_n hx hb dX6_sendLetters_10 rfl (lv_at hl 0 rfl) ?_
        refine lv_iload_n hx hb dX6_sendLetters_11 rfl (lv_at hl 1 rfl) ?_
        rcases z_at (qq := qq) hn12 hsp with ⟨hc2, hsp⟩ | ⟨j3, hj3, ej3, hc2, hsp⟩
        · refine z_callVq ⟨hx, hb, hml, hown, hts⟩ hK (c_X6_machineAt l dD cI cA q g (zfm qq n) (lo1) _ hc2) (cwV 1 hts gX6_sendLetters_X6_machineAt rfl rfl rfl (by decide +kernel) ⟨Nat.le_of_ble_eq_true rfl, Nat.le_of_ble_eq_true rfl⟩) (zJ.ofP (X := [zX q g, zP cA (q 3) (zfm qq n), zA cI (q 4) 144 fO, zA cI (q 5) 12 to, zR (q 2) gR, zD (q 1) gD_]) (wc := [zX q g, zP cA (q 3) (zfm qq n)]) (wc1 := [zX q g, zP cA (q 3) (zfm qq n)]) (wr := [zA cI (q 4) 144 fO, zA cI (q 5) 12 to, zR (q 2) gR, zD (q 1) gD_]) (w2 := [zX q g, zP cA (q 3) (zfm qq n), zA cI (q 4) 144 fO, zA cI (q 5) 12 to, zR (q 2) gR, zD (q 1) gD_]) hP hD hS hA [0, 1] [2, 3, 4, 5] [4, 5, 0, 1, 2, 3] rfl rfl rfl rfl rfl rfl rfl) hS 0 6 rfl rfl rfl rfl hl.1 rfl (Nat.le_of_ble_eq_true rfl) dX6_sendLetters_12 ⟨Nat.zero_le _, Nat.zero_le _⟩ (fun H locs hP hD hS => ?_)
          refine z_topN ?_
          refine lv_astore_nN (lv' := [(2, .null), (0, .ref (q 0)), (1, .int lo1)]) hx hb dX6_sendLetters_15 rfl hl (by decide) rfl (fun ls hl => ?_)
          refine lv_aload_nN hx hb dX6_sendLetters_16 rfl (lv_at hl 0 rfl) ?_
          refine lv_ifnullN (tgt := 28) hx hb dX6_sendLetters_17 (by decide) ?_
          obtain ⟨x4, ex4, hsp⟩ := z_lt hsp
          refine lv_iinc (v := x4) (lv' := [(1, .int x4), (2, .null), (0, .ref (q 0))]) hx hb dX6_sendLetters_28 hl (k := 2) rfl (by rw [ex4]; rfl) (by decide) rfl (fun ls hl => ?_)
          refine lv_goto (tgt := 2) hx hb dX6_sendLetters_31 (by decide) ?_
          exact ih2 _ _ ls gD_ S_ (x4) hP hD hS (lv_sub hl [2, 0] rfl) hsp
        · refine z_callVq ⟨hx, hb, hml, hown, hts⟩ hK (c_X6_machineAt l dD cI cA q g (zfm qq n) (lo1) _ hc2) (cwV 1 hts gX6_sendLetters_X6_machineAt rfl rfl rfl (by decide +kernel) ⟨Nat.le_of_ble_eq_true rfl, Nat.le_of_ble_eq_true rfl⟩) (zJ.ofP (X := [zX q g, zP cA (q 3) (zfm qq n), zA cI (q 4) 144 fO, zA cI (q 5) 12 to, zR (q 2) gR, zD (q 1) gD_]) (wc := [zX q g, zP cA (q 3) (zfm qq n)]) (wc1 := [zX q g, zP cA (q 3) (zfm qq n)]) (wr := [zA cI (q 4) 144 fO, zA cI (q 5) 12 to, zR (q 2) gR, zD (q 1) gD_]) (w2 := [zX q g, zP cA (q 3) (zfm qq n), zA cI (q 4) 144 fO, zA cI (q 5) 12 to, zR (q 2) gR, zD (q 1) gD_]) hP hD hS hA [0, 1] [2, 3, 4, 5] [4, 5, 0, 1, 2, 3] rfl rfl rfl rfl rfl rfl rfl) hS 0 6 rfl rfl rfl rfl hl.1 rfl (Nat.le_of_ble_eq_true rfl) dX6_sendLetters_12 ⟨Nat.zero_le _, Nat.zero_le _⟩ (fun H locs hP hD hS => ?_)
          refine z_topR ?_
          refine lv_astore_n (lv' := [(2, .ref (qq j3 0)), (0, .ref (q 0)), (1, .int lo1)]) hx hb dX6_sendLetters_15 rfl hl (by decide) rfl (fun ls hl => ?_)
          refine lv_aload_n hx hb dX6_sendLetters_16 rfl (lv_at hl 0 rfl) ?_
          refine lv_ifnull hx hb dX6_sendLetters_17 ?_
          refine lv_aload_n hx hb dX6_sendLetters_20 rfl (lv_at hl 0 rfl) ?_
          refine lv_aload_n hx hb dX6_sendLetters_21 rfl (lv_at hl 1 rfl) ?_
          refine va_get (D := dD) (ci := 6) (v := .int (g 7)) (C := RX6) (T := TX6) (N := 10) hx hb hts iX6 hown hK.1 hP 0 rfl rfl 7 (by decide) f75 (fun _ h9 => h9) rfl dX6_sendLetters_22 ?_
          obtain ⟨hP, hD⟩ := z_foc (fx := [zX q g, zP cA (q 3) (zfm qq n), zA cI (q 4) 144 fO, zA cI (q 5) 12 to, zR (q 2) gR, zD (q 1) gD_]) hj3 hP hD
          have hP : va_P dD vwCl ([zX q g, zP cA (q 3) (zfm qq n), zA cI (q 4) 144 fO, zA cI (q 5) 12 to, zR (q 2) gR, zD (q 1) gD_, zM (qq j3) (q 2) (q 1) (zad qq (C j3)) (S_ j3 0), zB (qq j3) (S_ j3 1), zA cI (qq j3 2) 12 (S_ j3 2), zA cI (qq j3 3) 12 (S_ j3 3), zI (qq j3) (S_ j3 4), zL (qq j3 5) (S_ j3 5)] ++ zRest cI q qq n j3 S_ C) H := hP
          have hD : va_D A ([zX q g, zP cA (q 3) (zfm qq n), zA cI (q 4) 144 fO, zA cI (q 5) 12 to, zR (q 2) gR, zD (q 1) gD_, zM (qq j3) (q 2) (q 1) (zad qq (C j3)) (S_ j3 0), zB (qq j3) (S_ j3 1), zA cI (qq j3 2) 12 (S_ j3 2), zA cI (qq j3 3) 12 (S_ j3 3), zI (qq j3) (S_ j3 4), zL (qq j3 5) (S_ j3 5)] ++ zRest cI q qq n j3 S_ C) := hD
          obtain ⟨gM5, gL6, gD7, hc8, hsp⟩ := z_b3 hsp
          refine z_callVv ⟨hx, hb, hml, hown, hts⟩ hK (c_X4_send l dD cI cA (qq j3) (q 2) (q 1) (zad qq (C j3)) (S_ j3 0) (S_ j3 1) (S_ j3 2) (S_ j3 3) (S_ j3 4) (S_ j3 5) gR gD_ ((g 7)) gM5 gL6 gD7 hc8) (cwV 1 hts gX6_sendLetters_X4_send rfl rfl rfl (by decide +kernel) ⟨Nat.le_of_ble_eq_true rfl, Nat.le_of_ble_eq_true rfl⟩) (zJ.ofP (X := [zX q g, zP cA (q 3) (zfm qq n), zA cI (q 4) 144 fO, zA cI (q 5) 12 to, zR (q 2) gR, zD (q 1) gD_, zM (qq j3) (q 2) (q 1) (zad qq (C j3)) (S_ j3 0), zB (qq j3) (S_ j3 1), zA cI (qq j3 2) 12 (S_ j3 2), zA cI (qq j3 3) 12 (S_ j3 3), zI (qq j3) (S_ j3 4), zL (qq j3 5) (S_ j3 5)]) (wc := [zM (qq j3) (q 2) (q 1) (zad qq (C j3)) (S_ j3 0), zB (qq j3) (S_ j3 1), zA cI (qq j3 2) 12 (S_ j3 2), zA cI (qq j3 3) 12 (S_ j3 3), zI (qq j3) (S_ j3 4), zL (qq j3 5) (S_ j3 5), zR (q 2) gR, zD (q 1) gD_]) (wc1 := [zM (qq j3) (q 2) (q 1) (zad qq (C j3)) gM5, zB (qq j3) (S_ j3 1), zA cI (qq j3 2) 12 (S_ j3 2), zA cI (qq j3 3) 12 (S_ j3 3), zI (qq j3) (S_ j3 4), zL (qq j3 5) gL6, zR (q 2) gR, zD (q 1) gD7]) (wr := [zX q g, zP cA (q 3) (zfm qq n), zA cI (q 4) 144 fO, zA cI (q 5) 12 to]) (w2 := [zX q g, zP cA (q 3) (zfm qq n), zA cI (q 4) 144 fO, zA cI (q 5) 12 to, zR (q 2) gR, zD (q 1) gD7, zM (qq j3) (q 2) (q 1) (zad qq (C j3)) gM5, zB (qq j3) (S_ j3 1), zA cI (qq j3 2) 12 (S_ j3 2), zA cI (qq j3 3) 12 (S_ j3 3), zI (qq j3) (S_ j3 4), zL (qq j3 5) gL6]) hP hD hS hA [6, 7, 8, 9, 10, 11, 4, 5] [0, 1, 2, 3] [0, 1, 2, 3, 10, 11, 4, 5, 6, 7, 8, 9] rfl rfl rfl rfl rfl rfl rfl) hS 0 4 rfl rfl rfl rfl hl.1 rfl (Nat.le_of_ble_eq_true rfl) dX6_sendLetters_25 ⟨Nat.zero_le _, Nat.zero_le _⟩ (fun H locs hP hD hS => ?_)
          obtain ⟨x9, ex9, hsp⟩ := z_lt hsp
          refine lv_iinc (v := x9) (lv' := [(1, .int x9), (2, .ref (qq j3 0)), (0, .ref (q 0))]) hx hb dX6_sendLetters_28 hl (k := 2) rfl (by rw [ex9]; rfl) (by decide) rfl (fun ls hl => ?_)
          refine lv_goto (tgt := 2) hx hb dX6_sendLetters_31 (by decide) ?_
          obtain ⟨S10, eS10, hsp⟩ := z_lt hsp
          obtain ⟨hP, hD⟩ := z_unfS [zX q g, zP cA (q 3) (zfm qq n), zA cI (q 4) 144 fO, zA cI (q 5) 12 to, zR (q 2) gR, zD (q 1) gD7] (gM := gM5) (gB := (S_ j3 1)) (mk := (S_ j3 2)) (mx := (S_ j3 3)) (gI := (S_ j3 4)) (gL := gL6) hj3 hP hD
          rw [← eS10] at hP hD
          have hP : va_P dD vwCl ([zX q g, zP cA (q 3) (zfm qq n), zA cI (q 4) 144 fO, zA cI (q 5) 12 to, zR (q 2) gR, zD (q 1) gD7] ++ zPool cI q qq n S10 C) H := hP
          have hD : va_D A ([zX q g, zP cA (q 3) (zfm qq n), zA cI (q 4) 144 fO, zA cI (q 5) 12 to, zR (q 2) gR, zD (q 1) gD7] ++ zPool cI q qq n S10 C) := hD
          exact ih2 _ _ ls gD7 S10 (x9) hP hD hS (lv_sub hl [2, 0] rfl) hsp
  unfold s_X6_sendLetters at hsp
  refine lv_iconst (v := 0) hx hb dX6_sendLetters_0 (by decide) ?_
  refine lv_istore_n (lv' := [(1, .int 0), (0, .ref (q 0))]) hx hb dX6_sendLetters_1 rfl hl (by decide) rfl (fun ls hl => ?_)
  exact K_2 13 _ _ ls gD S (0) hP hD hS (lv_sub hl [1, 0] rfl) hsp
def s_X6_listen_b11 (g : zF) (fO : zF) (to : zF) (gR : zF) (n : Nat) (jh : Nat) : Nat → (zF) → (Nat → Nat → zF) → (Nat → Option Nat) → (Int32) → (Option Nat) → (Int32) → (Int32) → (Int32) → Option ((zF) × (Nat → Nat → zF) × (Nat → Option Nat))
  | 0, _, _, _, _, _, _, _, _ => none
  | n11 + 1, gD_, S_, C_, lo2, lo3, lo4, lo5, lo6 => (if (g 5) ≤ lo6 then (if lo5 ≤ 1 then (if lo5 = 1 then zb2 (s_X1_below gD_ (100)) fun (v6 : Int32) (gD7 : zF) => (if lo4 ≤ v6 then zl (va_up S_ jh (zs6 (S_ jh 0) (S_ jh 1) (S_ jh 2) (S_ jh 3) (S_ jh 4) (S_ jh 5))) fun (S10 : Nat → Nat → zF) => zl (va_up C_ jh lo3) fun (C11 : Nat → Option Nat) => some (gD7, S10, C11) else zl (va_up (S_ jh 0) 16 ((((S_ jh 0) 16) + 1))) fun (gM12 : zF) => zl (va_up S_ jh (zs6 gM12 (S_ jh 1) (S_ jh 2) (S_ jh 3) (S_ jh 4) (S_ jh 5))) fun (S13 : Nat → Nat → zF) => some (gD7, S13, C_)) else zl (va_up S_ jh (zs6 (S_ jh 0) (S_ jh 1) (S_ jh 2) (S_ jh 3) (S_ jh 4) (S_ jh 5))) fun (S4 : Nat → Nat → zF) => zl (va_up C_ jh lo3) fun (C5 : Nat → Option Nat) => some (gD_, S4, C5)) else zl (va_up (S_ jh 0) 15 ((((S_ jh 0) 15) + 1))) fun (gM14 : zF) => zl (va_up S_ jh (zs6 gM14 (S_ jh 1) (S_ jh 2) (S_ jh 3) (S_ jh 4) (S_ jh 5))) fun (S15 : Nat → Nat → zF) => some (gD_, S15, C_)) else (zat n g (lo6) (zb1 (s_X6_oddsBetween g fO (lo2) (lo6)) fun (v18 : Int32) => zl (lo6 + 1) fun (x20 : Int32) => (s_X6_listen_b11 g fO to gR n jh n11 gD_ S_ C_ (lo2) (lo3) (lo4) (lo5) (x20))) fun (j17 : Nat) => zb1 (s_X6_oddsBetween g fO (lo2) (lo6)) fun (v21 : Int32) => zb1 (s_X3_isSent (S_ j17 5)) fun (v23 : Int32) => (if v23 = 0 then zl (lo6 + 1) fun (x26 : Int32) => (s_X6_listen_b11 g fO to gR n jh n11 gD_ S_ C_ (lo2) (lo3) (lo4) (lo5) (x26)) else (if v21 = (-1) then zl (lo6 + 1) fun (x28 : Int32) => (s_X6_listen_b11 g fO to gR n jh n11 gD_ S_ C_ (lo2) (lo3) (lo4) (lo5) (x28)) else zl (lo5 + 1) fun (x29 : Int32) => zl (lo6 + 1) fun (x30 : Int32) => (s_X6_listen_b11 g fO to gR n jh n11 gD_ S_ C_ (lo2) ((some j17)) (v21) (x29) (x30))))))
def s_X6_listen (g : zF) (fO : zF) (to : zF) (gR : zF) (gD : zF) (S : Nat → Nat → zF) (C : Nat → Option Nat) (n : Nat) (jh : Nat) (p1 : Int32) : Option ((zF) × (Nat → Nat → zF) × (Nat → Option Nat)) := (s_X6_listen_b11 g fO to gR n jh 13 gD S C (p1) (none) ((-1)) (0) (0))
abbrev rm_X6_listen : Room := { frames := 3, cells := 0, slots := 0, locals := 68 }
set_option maxHeartbeats 4000000 in
set_option maxRecDepth 100000 in
theorem c_X6_listen (l : Launch) (dD : va_G) (cI cA : ClassId) (q : Nat → Nat) (qq : Nat → Nat → Nat) (n : Nat) (hn12 : n ≤ 12) (jh : Nat) (hjh : jh < n) (g : zF) (fO : zF) (to : zF) (gR : zF) (gD : zF) (S : Nat → Nat → zF) (C : Nat → Option Nat) (p1 : Int32) (r_gD : zF) (r_S : Nat → Nat → zF) (r_C : Nat → Option Nat) (hsp : s_X6_listen g fO to gR gD S C n jh p1 = some (r_gD, r_S, r_C)) : zMv l yX6_listen wsX6_listen rm_X6_listen dD cI cA [.ref (q 0), .ref (qq jh 0), .int p1] ([zX q g, zP cA (q 3) (zfm qq n), zA cI (q 4) 144 fO, zA cI (q 5) 12 to, zR (q 2) gR, zD (q 1) gD] ++ zPool cI q qq n S C) ([zX q g, zP cA (q 3) (zfm qq n), zA cI (q 4) 144 fO, zA cI (q 5) 12 to, zR (q 2) gR, zD (q 1) r_gD] ++ zPool cI q qq n r_S r_C) := by
  refine zMv_of (cc := cX6_listen) (maxL := 9) (by decide) rfl (Nat.le_of_ble_eq_true rfl) ?_
  intro p e s m args below meth c A Q ls hx hb hml hown hts hK hA hP hD hl hret
  have hown : s.vm.findClass RX6 = some m.cls := hown
  have iX6 : ∀ w ∈ wsX60, w ∈ wsX6_listen := by decide +kernel
  have iX4 : ∀ w ∈ wsX40, w ∈ wsX6_listen := by decide +kernel
  have f53 := hts (.fieldLink RX6 53 "MeshField" "machineCount" "I") (by decide +kernel)
  have f172 : (Cond.fieldLinkNest RX6 172 "MeshField$Machine" "caught" "LMeshField$Letter;" "MeshField").before args s = true := hK.nw (by decide +kernel)
  have f10 := hts (.fieldLink RX6 10 "MeshField" "draws" "LMeshField$Draws;") (by decide +kernel)
  have f198 : (Cond.fieldLinkNest RX6 198 "MeshField$Machine" "lost" "I" "MeshField").before args s = true := hK.nw (by decide +kernel)
  have f192 : (Cond.fieldLinkNest RX6 192 "MeshField$Machine" "spoilt" "I" "MeshField").before args s = true := hK.nw (by decide +kernel)
  have f176 : (Cond.fieldLinkNest RX6 176 "MeshField$Machine" "letter" "LMeshField$Letter;" "MeshField").before args s = true := hK.nw (by decide +kernel)
  have hS : va_S A s.heap s.heap [] := va_S.rf
  have hl : lv_has ls 9 [(0, .ref (q 0)), (1, .ref (qq jh 0)), (2, .int p1)] := hl
  have K_11 : ∀ (nf : Nat) (H : Heap) (locs : List Loc) (ls : Array Slot) (gD_ : zF) (S_ : Nat → Nat → zF) (C_ : Nat → Option Nat) (lo2 : Int32) (lo3 : Option Nat) (lo4 : Int32) (lo5 : Int32) (lo6 : Int32), va_P dD vwCl ([zX q g, zP cA (q 3) (zfm qq n), zA cI (q 4) 144 fO, zA cI (q 5) 12 to, zR (q 2) gR, zD (q 1) gD_] ++ zPool cI q qq n S_ C_) H → va_D A ([zX q g, zP cA (q 3) (zfm qq n), zA cI (q 4) 144 fO, zA cI (q 5) 12 to, zR (q 2) gR, zD (q 1) gD_] ++ zPool cI q qq n S_ C_) → va_S A s.heap H locs → lv_has ls 9 [(0, .ref (q 0)), (1, .ref (qq jh 0)), (2, .int lo2), (3, va_rf (zad qq lo3)), (4, .int lo4), (5, .int lo5), (6, .int lo6)] → s_X6_listen_b11 g fO to gR n jh nf gD_ S_ C_ lo2 lo3 lo4 lo5 lo6 = some (r_gD, r_S, r_C) → W p l e rm_X6_listen s m args below meth c H locs 0 0 Q (F0 m 11 ls []) := by
    intro nf
    induction nf with
    | zero =>
      intro H locs ls gD_ S_ C_ lo2 lo3 lo4 lo5 lo6 hP hD hS hl hsp
      exact absurd (show (none : Option ((zF) × (Nat → Nat → zF) × (Nat → Option Nat))) = some (r_gD, r_S, r_C) from hsp) (fun h => by cases h)
    | succ n11 ih11 =>
      intro H locs ls gD_ S_ C_ lo2 lo3 lo4 lo5 lo6 hP hD hS hl hsp
      rw [s_X6_listen_b11] at hsp
      refine lv_iload hx hb dX6_listen_11 (lv_at hl 6 rfl) ?_
      refine lv_aload_n hx hb dX6_listen_13 rfl (lv_at hl 0 rfl) ?_
      refine va_get (D := dD) (ci := 6) (v := .int (g 5)) (C := RX6) (T := TX6) (N := 10) hx hb hts iX6 hown hK.1 hP 0 rfl rfl 5 (by decide) f53 (fun _ h9 => h9) rfl dX6_listen_14 ?_
      refine lv_icmp_ge (tgt := 78) hx hb dX6_listen_17 (by decide) (fun c1 => ?_) (fun c1 => ?_)
      · have hsp := z_t c1 hsp
        refine lv_iload hx hb dX6_listen_78 (lv_at hl 5 rfl) ?_
        refine lv_iconst (v := 1) hx hb dX6_listen_80 (by decide) ?_
        refine lv_icmp_le (tgt := 97) hx hb dX6_listen_81 (by decide) (fun c2 => ?_) (fun c2 => ?_)
        · have hsp := z_t c2 hsp
          refine lv_iload hx hb dX6_listen_97 (lv_at hl 5 rfl) ?_
          refine lv_iconst (v := 1) hx hb dX6_listen_99 (by decide) ?_
          refine lv_icmp_ne (tgt := 130) hx hb dX6_listen_100 (by decide) (fun c3 => ?_) (fun c3 => ?_)
          · have hsp := z_f c3 hsp
            refine lv_aload_n hx hb dX6_listen_130 rfl (lv_at hl 1 rfl) ?_
            refine z_aload_n hx hb dX6_listen_131 rfl (lv_at hl 3 rfl) ?_
            obtain ⟨hP, hD⟩ := z_foc (fx := [zX q g, zP cA (q 3) (zfm qq n), zA cI (q 4) 144 fO, zA cI (q 5) 12 to, zR (q 2) gR, zD (q 1) gD_]) hjh hP hD
            have hP : va_P dD vwCl ([zX q g, zP cA (q 3) (zfm qq n), zA cI (q 4) 144 fO, zA cI (q 5) 12 to, zR (q 2) gR, zD (q 1) gD_, zM (qq jh) (q 2) (q 1) (zad qq (C_ jh)) (S_ jh 0), zB (qq jh) (S_ jh 1), zA cI (qq jh 2) 12 (S_ jh 2), zA cI (qq jh 3) 12 (S_ jh 3), zI (qq jh) (S_ jh 4), zL (qq jh 5) (S_ jh 5)] ++ zRest cI q qq n jh S_ C_) H := hP
            have hD : va_D A ([zX q g, zP cA (q 3) (zfm qq n), zA cI (q 4) 144 fO, zA cI (q 5) 12 to, zR (q 2) gR, zD (q 1) gD_, zM (qq jh) (q 2) (q 1) (zad qq (C_ jh)) (S_ jh 0), zB (qq jh) (S_ jh 1), zA cI (qq jh 2) 12 (S_ jh 2), zA cI (qq jh 3) 12 (S_ jh 3), zI (qq jh) (S_ jh 4), zL (qq jh 5) (S_ jh 5)] ++ zRest cI q qq n jh S_ C_) := hD
            refine va_putN (D := dD) (ci := 4) (v := va_rf (zad qq lo3)) (ty := .object "MeshField$Letter") (C := RX4) (T := TX4) (N := 18) hx hb hts iX4 tyX4 tyX4_ok nmX4 hown hK.1 hP hD hS 6 rfl rfl 5 (by decide) f172 (fun _ h9 => h9) rfl (by decide +kernel) (z_narq _ _) (z_fitq _ _) (Nat.le_of_ble_eq_true rfl) dX6_listen_132 (fun H locs hP hD hS => ?_)
            have hP : va_P dD vwCl ([zX q g, zP cA (q 3) (zfm qq n), zA cI (q 4) 144 fO, zA cI (q 5) 12 to, zR (q 2) gR, zD (q 1) gD_, zM (qq jh) (q 2) (q 1) (zad qq lo3) (S_ jh 0), zB (qq jh) (S_ jh 1), zA cI (qq jh 2) 12 (S_ jh 2), zA cI (qq jh 3) 12 (S_ jh 3), zI (qq jh) (S_ jh 4), zL (qq jh 5) (S_ jh 5)] ++ zRest cI q qq n jh S_ C_) H := hP
            have hD : va_D A ([zX q g, zP cA (q 3) (zfm qq n), zA cI (q 4) 144 fO, zA cI (q 5) 12 to, zR (q 2) gR, zD (q 1) gD_, zM (qq jh) (q 2) (q 1) (zad qq lo3) (S_ jh 0), zB (qq jh) (S_ jh 1), zA cI (qq jh 2) 12 (S_ jh 2), zA cI (qq jh 3) 12 (S_ jh 3), zI (qq jh) (S_ jh 4), zL (qq jh 5) (S_ jh 5)] ++ zRest cI q qq n jh S_ C_) := hD
            obtain ⟨S4, eS4, hsp⟩ := z_lt hsp
            obtain ⟨C5, eC5, hsp⟩ := z_lt hsp
            obtain ⟨hP, hD⟩ := z_unf [zX q g, zP cA (q 3) (zfm qq n), zA cI (q 4) 144 fO, zA cI (q 5) 12 to, zR (q 2) gR, zD (q 1) gD_] (c := lo3) (gM := (S_ jh 0)) (gB := (S_ jh 1)) (mk := (S_ jh 2)) (mx := (S_ jh 3)) (gI := (S_ jh 4)) (gL := (S_ jh 5)) hjh hP hD
            rw [← eS4, ← eC5] at hP hD
            have hP : va_P dD vwCl ([zX q g, zP cA (q 3) (zfm qq n), zA cI (q 4) 144 fO, zA cI (q 5) 12 to, zR (q 2) gR, zD (q 1) gD_] ++ zPool cI q qq n S4 C5) H := hP
            have hD : va_D A ([zX q g, zP cA (q 3) (zfm qq n), zA cI (q 4) 144 fO, zA cI (q 5) 12 to, zR (q 2) gR, zD (q 1) gD_] ++ zPool cI q qq n S4 C5) := hD
            obtain ⟨rfl, rfl, rfl⟩ := z_i3 hsp
            exact hret _ _ ls 135 dX6_listen_135 hP hD hS
          · have hsp := z_t c3 hsp
            refine lv_aload_n hx hb dX6_listen_103 rfl (lv_at hl 0 rfl) ?_
            refine va_get (D := dD) (ci := 6) (v := .ref (q 1)) (C := RX6) (T := TX6) (N := 10) hx hb hts iX6 hown hK.1 hP 0 rfl rfl 0 (by decide) f10 (fun _ h9 => h9) rfl dX6_listen_104 ?_
            refine lv_bipush (v := 100) hx hb dX6_listen_107 (by decide) ?_
            obtain ⟨v6, gD7, hc8, hsp⟩ := z_b2 hsp
            refine z_callVi ⟨hx, hb, hml, hown, hts⟩ hK (c_X1_below l dD cI cA (q 1) gD_ (100) v6 gD7 hc8) (cwV 1 hts gX6_listen_X1_below rfl rfl rfl (by decide +kernel) ⟨Nat.le_of_ble_eq_true rfl, Nat.le_of_ble_eq_true rfl⟩) (zJ.ofP (X := [zX q g, zP cA (q 3) (zfm qq n), zA cI (q 4) 144 fO, zA cI (q 5) 12 to, zR (q 2) gR, zD (q 1) gD_]) (wc := [zD (q 1) gD_]) (wc1 := [zD (q 1) gD7]) (wr := [zX q g, zP cA (q 3) (zfm qq n), zA cI (q 4) 144 fO, zA cI (q 5) 12 to, zR (q 2) gR]) (w2 := [zX q g, zP cA (q 3) (zfm qq n), zA cI (q 4) 144 fO, zA cI (q 5) 12 to, zR (q 2) gR, zD (q 1) gD7]) hP hD hS hA [5] [0, 1, 2, 3, 4] [0, 1, 2, 3, 4, 5] rfl rfl rfl rfl rfl rfl rfl) hS 0 1 rfl rfl rfl rfl hl.1 rfl (Nat.le_of_ble_eq_true rfl) dX6_listen_109 ⟨Nat.zero_le _, Nat.zero_le _⟩ (fun H locs hP hD hS => ?_)
            refine lv_iload hx hb dX6_listen_112 (lv_at hl 4 rfl) ?_
            refine lv_icmp_ge (tgt := 130) hx hb dX6_listen_114 (by decide) (fun c9 => ?_) (fun c9 => ?_)
            · have hsp := z_t c9 hsp
              refine lv_aload_n hx hb dX6_listen_130 rfl (lv_at hl 1 rfl) ?_
              refine z_aload_n hx hb dX6_listen_131 rfl (lv_at hl 3 rfl) ?_
              obtain ⟨hP, hD⟩ := z_foc (fx := [zX q g, zP cA (q 3) (zfm qq n), zA cI (q 4) 144 fO, zA cI (q 5) 12 to, zR (q 2) gR, zD (q 1) gD7]) hjh hP hD
              have hP : va_P dD vwCl ([zX q g, zP cA (q 3) (zfm qq n), zA cI (q 4) 144 fO, zA cI (q 5) 12 to, zR (q 2) gR, zD (q 1) gD7, zM (qq jh) (q 2) (q 1) (zad qq (C_ jh)) (S_ jh 0), zB (qq jh) (S_ jh 1), zA cI (qq jh 2) 12 (S_ jh 2), zA cI (qq jh 3) 12 (S_ jh 3), zI (qq jh) (S_ jh 4), zL (qq jh 5) (S_ jh 5)] ++ zRest cI q qq n jh S_ C_) H := hP
              have hD : va_D A ([zX q g, zP cA (q 3) (zfm qq n), zA cI (q 4) 144 fO, zA cI (q 5) 12 to, zR (q 2) gR, zD (q 1) gD7, zM (qq jh) (q 2) (q 1) (zad qq (C_ jh)) (S_ jh 0), zB (qq jh) (S_ jh 1), zA cI (qq jh 2) 12 (S_ jh 2), zA cI (qq jh 3) 12 (S_ jh 3), zI (qq jh) (S_ jh 4), zL (qq jh 5) (S_ jh 5)] ++ zRest cI q qq n jh S_ C_) := hD
              refine va_putN (D := dD) (ci := 4) (v := va_rf (zad qq lo3)) (ty := .object "MeshField$Letter") (C := RX4) (T := TX4) (N := 18) hx hb hts iX4 tyX4 tyX4_ok nmX4 hown hK.1 hP hD hS 6 rfl rfl 5 (by decide) f172 (fun _ h9 => h9) rfl (by decide +kernel) (z_narq _ _) (z_fitq _ _) (Nat.le_of_ble_eq_true rfl) dX6_listen_132 (fun H locs hP hD hS => ?_)
              have hP : va_P dD vwCl ([zX q g, zP cA (q 3) (zfm qq n), zA cI (q 4) 144 fO, zA cI (q 5) 12 to, zR (q 2) gR, zD (q 1) gD7, zM (qq jh) (q 2) (q 1) (zad qq lo3) (S_ jh 0), zB (qq jh) (S_ jh 1), zA cI (qq jh 2) 12 (S_ jh 2), zA cI (qq jh 3) 12 (S_ jh 3), zI (qq jh) (S_ jh 4), zL (qq jh 5) (S_ jh 5)] ++ zRest cI q qq n jh S_ C_) H := hP
              have hD : va_D A ([zX q g, zP cA (q 3) (zfm qq n), zA cI (q 4) 144 fO, zA cI (q 5) 12 to, zR (q 2) gR, zD (q 1) gD7, zM (qq jh) (q 2) (q 1) (zad qq lo3) (S_ jh 0), zB (qq jh) (S_ jh 1), zA cI (qq jh 2) 12 (S_ jh 2), zA cI (qq jh 3) 12 (S_ jh 3), zI (qq jh) (S_ jh 4), zL (qq jh 5) (S_ jh 5)] ++ zRest cI q qq n jh S_ C_) := hD
              obtain ⟨S10, eS10, hsp⟩ := z_lt hsp
              obtain ⟨C11, eC11, hsp⟩ := z_lt hsp
              obtain ⟨hP, hD⟩ := z_unf [zX q g, zP cA (q 3) (zfm qq n), zA cI (q 4) 144 fO, zA cI (q 5) 12 to, zR (q 2) gR, zD (q 1) gD7] (c := lo3) (gM := (S_ jh 0)) (gB := (S_ jh 1)) (mk := (S_ jh 2)) (mx := (S_ jh 3)) (gI := (S_ jh 4)) (gL := (S_ jh 5)) hjh hP hD
              rw [← eS10, ← eC11] at hP hD
              have hP : va_P dD vwCl ([zX q g, zP cA (q 3) (zfm qq n), zA cI (q 4) 144 fO, zA cI (q 5) 12 to, zR (q 2) gR, zD (q 1) gD7] ++ zPool cI q qq n S10 C11) H := hP
              have hD : va_D A ([zX q g, zP cA (q 3) (zfm qq n), zA cI (q 4) 144 fO, zA cI (q 5) 12 to, zR (q 2) gR, zD (q 1) gD7] ++ zPool cI q qq n S10 C11) := hD
              obtain ⟨rfl, rfl, rfl⟩ := z_i3 hsp
              exact hret _ _ ls 135 dX6_listen_135 hP hD hS
            · have hsp := z_f c9 hsp
              refine lv_aload_n hx hb dX6_listen_117 rfl (lv_at hl 1 rfl) ?_
              refine lv_dup hx hb dX6_listen_118 rfl ?_
              obtain ⟨hP, hD⟩ := z_foc (fx := [zX q g, zP cA (q 3) (zfm qq n), zA cI (q 4) 144 fO, zA cI (q 5) 12 to, zR (q 2) gR, zD (q 1) gD7]) hjh hP hD
              have hP : va_P dD vwCl ([zX q g, zP cA (q 3) (zfm qq n), zA cI (q 4) 144 fO, zA cI (q 5) 12 to, zR (q 2) gR, zD (q 1) gD7, zM (qq jh) (q 2) (q 1) (zad qq (C_ jh)) (S_ jh 0), zB (qq jh) (S_ jh 1), zA cI (qq jh 2) 12 (S_ jh 2), zA cI (qq jh 3) 12 (S_ jh 3), zI (qq jh) (S_ jh 4), zL (qq jh 5) (S_ jh 5)] ++ zRest cI q qq n jh S_ C_) H := hP
              have hD : va_D A ([zX q g, zP cA (q 3) (zfm qq n), zA cI (q 4) 144 fO, zA cI (q 5) 12 to, zR (q 2) gR, zD (q 1) gD7, zM (qq jh) (q 2) (q 1) (zad qq (C_ jh)) (S_ jh 0), zB (qq jh) (S_ jh 1), zA cI (qq jh 2) 12 (S_ jh 2), zA cI (qq jh 3) 12 (S_ jh 3), zI (qq jh) (S_ jh 4), zL (qq jh 5) (S_ jh 5)] ++ zRest cI q qq n jh S_ C_) := hD
              refine va_getN (D := dD) (ci := 4) (v := .int ((S_ jh 0) 16)) (C := RX4) (T := TX4) (N := 18) hx hb hts iX4 hown hK.1 hP 6 rfl rfl 16 (by decide) f198 (fun _ h9 => h9) rfl dX6_listen_119 ?_
              refine lv_iconst (v := 1) hx hb dX6_listen_122 (by decide) ?_
              refine lv_iadd hx hb dX6_listen_123 ?_
              refine va_putN (D := dD) (ci := 4) (v := .int (((S_ jh 0) 16) + 1)) (ty := .int) (C := RX4) (T := TX4) (N := 18) hx hb hts iX4 tyX4 tyX4_ok nmX4 hown hK.1 hP hD hS 6 rfl rfl 16 (by decide) f198 (fun _ h9 => h9) rfl (by decide +kernel) rfl rfl (Nat.le_of_ble_eq_true rfl) dX6_listen_124 (fun H locs hP hD hS => ?_)
              obtain ⟨gM12, egM12, hsp⟩ := z_lt hsp
              have hP : va_P dD vwCl ([zX q g, zP cA (q 3) (zfm qq n), zA cI (q 4) 144 fO, zA cI (q 5) 12 to, zR (q 2) gR, zD (q 1) gD7, zM (qq jh) (q 2) (q 1) (zad qq (C_ jh)) gM12, zB (qq jh) (S_ jh 1), zA cI (qq jh 2) 12 (S_ jh 2), zA cI (qq jh 3) 12 (S_ jh 3), zI (qq jh) (S_ jh 4), zL (qq jh 5) (S_ jh 5)] ++ zRest cI q qq n jh S_ C_) H := by rw [egM12]; exact hP
              have hD : va_D A ([zX q g, zP cA (q 3) (zfm qq n), zA cI (q 4) 144 fO, zA cI (q 5) 12 to, zR (q 2) gR, zD (q 1) gD7, zM (qq jh) (q 2) (q 1) (zad qq (C_ jh)) gM12, zB (qq jh) (S_ jh 1), zA cI (qq jh 2) 12 (S_ jh 2), zA cI (qq jh 3) 12 (S_ jh 3), zI (qq jh) (S_ jh 4), zL (qq jh 5) (S_ jh 5)] ++ zRest cI q qq n jh S_ C_) := by rw [egM12]; exact hD
              refine lv_goto (tgt := 135) hx hb dX6_listen_127 (by decide) ?_
              obtain ⟨S13, eS13, hsp⟩ := z_lt hsp
              obtain ⟨hP, hD⟩ := z_unfS [zX q g, zP cA (q 3) (zfm qq n), zA cI (q 4) 144 fO, zA cI (q 5) 12 to, zR (q 2) gR, zD (q 1) gD7] (gM := gM12) (gB := (S_ jh 1)) (mk := (S_ jh 2)) (mx := (S_ jh 3)) (gI := (S_ jh 4)) (gL := (S_ jh 5)) hjh hP hD
              rw [← eS13] at hP hD
              have hP : va_P dD vwCl ([zX q g, zP cA (q 3) (zfm qq n), zA cI (q 4) 144 fO, zA cI (q 5) 12 to, zR (q 2) gR, zD (q 1) gD7] ++ zPool cI q qq n S13 C_) H := hP
              have hD : va_D A ([zX q g, zP cA (q 3) (zfm qq n), zA cI (q 4) 144 fO, zA cI (q 5) 12 to, zR (q 2) gR, zD (q 1) gD7] ++ zPool cI q qq n S13 C_) := hD
              obtain ⟨rfl, rfl, rfl⟩ := z_i3 hsp
              exact hret _ _ ls 135 dX6_listen_135 hP hD hS
        · have hsp := z_f c2 hsp
          refine lv_aload_n hx hb dX6_listen_84 rfl (lv_at hl 1 rfl) ?_
          refine lv_dup hx hb dX6_listen_85 rfl ?_
          obtain ⟨hP, hD⟩ := z_foc (fx := [zX q g, zP cA (q 3) (zfm qq n), zA cI (q 4) 144 fO, zA cI (q 5) 12 to, zR (q 2) gR, zD (q 1) gD_]) hjh hP hD
          have hP : va_P dD vwCl ([zX q g, zP cA (q 3) (zfm qq n), zA cI (q 4) 144 fO, zA cI (q 5) 12 to, zR (q 2) gR, zD (q 1) gD_, zM (qq jh) (q 2) (q 1) (zad qq (C_ jh)) (S_ jh 0), zB (qq jh) (S_ jh 1), zA cI (qq jh 2) 12 (S_ jh 2), zA cI (qq jh 3) 12 (S_ jh 3), zI (qq jh) (S_ jh 4), zL (qq jh 5) (S_ jh 5)] ++ zRest cI q qq n jh S_ C_) H := hP
          have hD : va_D A ([zX q g, zP cA (q 3) (zfm qq n), zA cI (q 4) 144 fO, zA cI (q 5) 12 to, zR (q 2) gR, zD (q 1) gD_, zM (qq jh) (q 2) (q 1) (zad qq (C_ jh)) (S_ jh 0), zB (qq jh) (S_ jh 1), zA cI (qq jh 2) 12 (S_ jh 2), zA cI (qq jh 3) 12 (S_ jh 3), zI (qq jh) (S_ jh 4), zL (qq jh 5) (S_ jh 5)] ++ zRest cI q qq n jh S_ C_) := hD
          refine va_getN (D := dD) (ci := 4) (v := .int ((S_ jh 0) 15)) (C := RX4) (T := TX4) (N := 18) hx hb hts iX4 hown hK.1 hP 6 rfl rfl 15 (by decide) f192 (fun _ h9 => h9) rfl dX6_listen_86 ?_
          refine lv_iconst (v := 1) hx hb dX6_listen_89 (by decide) ?_
          refine lv_iadd hx hb dX6_listen_90 ?_
          refine va_putN (D := dD) (ci := 4) (v := .int (((S_ jh 0) 15) + 1)) (ty := .int) (C := RX4) (T := TX4) (N := 18) hx hb hts iX4 tyX4 tyX4_ok nmX4 hown hK.1 hP hD hS 6 rfl rfl 15 (by decide) f192 (fun _ h9 => h9) rfl (by decide +kernel) rfl rfl (Nat.le_of_ble_eq_true rfl) dX6_listen_91 (fun H locs hP hD hS => ?_)
          obtain ⟨gM14, egM14, hsp⟩ := z_lt hsp
          have hP : va_P dD vwCl ([zX q g, zP cA (q 3) (zfm qq n), zA cI (q 4) 144 fO, zA cI (q 5) 12 to, zR (q 2) gR, zD (q 1) gD_, zM (qq jh) (q 2) (q 1) (zad qq (C_ jh)) gM14, zB (qq jh) (S_ jh 1), zA cI (qq jh 2) 12 (S_ jh 2), zA cI (qq jh 3) 12 (S_ jh 3), zI (qq jh) (S_ jh 4), zL (qq jh 5) (S_ jh 5)] ++ zRest cI q qq n jh S_ C_) H := by rw [egM14]; exact hP
          have hD : va_D A ([zX q g, zP cA (q 3) (zfm qq n), zA cI (q 4) 144 fO, zA cI (q 5) 12 to, zR (q 2) gR, zD (q 1) gD_, zM (qq jh) (q 2) (q 1) (zad qq (C_ jh)) gM14, zB (qq jh) (S_ jh 1), zA cI (qq jh 2) 12 (S_ jh 2), zA cI (qq jh 3) 12 (S_ jh 3), zI (qq jh) (S_ jh 4), zL (qq jh 5) (S_ jh 5)] ++ zRest cI q qq n jh S_ C_) := by rw [egM14]; exact hD
          refine lv_goto (tgt := 135) hx hb dX6_listen_94 (by decide) ?_
          obtain ⟨S15, eS15, hsp⟩ := z_lt hsp
          obtain ⟨hP, hD⟩ := z_unfS [zX q g, zP cA (q 3) (zfm qq n), zA cI (q 4) 144 fO, zA cI (q 5) 12 to, zR (q 2) gR, zD (q 1) gD_] (gM := gM14) (gB := (S_ jh 1)) (mk := (S_ jh 2)) (mx := (S_ jh 3)) (gI := (S_ jh 4)) (gL := (S_ jh 5)) hjh hP hD
          rw [← eS15] at hP hD
          have hP : va_P dD vwCl ([zX q g, zP cA (q 3) (zfm qq n), zA cI (q 4) 144 fO, zA cI (q 5) 12 to, zR (q 2) gR, zD (q 1) gD_] ++ zPool cI q qq n S15 C_) H := hP
          have hD : va_D A ([zX q g, zP cA (q 3) (zfm qq n), zA cI (q 4) 144 fO, zA cI (q 5) 12 to, zR (q 2) gR, zD (q 1) gD_] ++ zPool cI q qq n S15 C_) := hD
          obtain ⟨rfl, rfl, rfl⟩ := z_i3 hsp
          exact hret _ _ ls 135 dX6_listen_135 hP hD hS
      · have hsp := z_f c1 hsp
        refine lv_aload_n hx hb dX6_listen_20 rfl (lv_at hl 0 rfl) ?_
        refine lv_iload hx hb dX6_listen_21 (lv_at hl 6 rfl) ?_
        rcases z_at (qq := qq) hn12 hsp with ⟨hc16, hsp⟩ | ⟨j17, hj17, ej17, hc16, hsp⟩
        · refine z_callVq ⟨hx, hb, hml, hown, hts⟩ hK (c_X6_machineAt l dD cI cA q g (zfm qq n) (lo6) _ hc16) (cwV 1 hts gX6_listen_X6_machineAt rfl rfl rfl (by decide +kernel) ⟨Nat.le_of_ble_eq_true rfl, Nat.le_of_ble_eq_true rfl⟩) (zJ.ofP (X := [zX q g, zP cA (q 3) (zfm qq n), zA cI (q 4) 144 fO, zA cI (q 5) 12 to, zR (q 2) gR, zD (q 1) gD_]) (wc := [zX q g, zP cA (q 3) (zfm qq n)]) (wc1 := [zX q g, zP cA (q 3) (zfm qq n)]) (wr := [zA cI (q 4) 144 fO, zA cI (q 5) 12 to, zR (q 2) gR, zD (q 1) gD_]) (w2 := [zX q g, zP cA (q 3) (zfm qq n), zA cI (q 4) 144 fO, zA cI (q 5) 12 to, zR (q 2) gR, zD (q 1) gD_]) hP hD hS hA [0, 1] [2, 3, 4, 5] [4, 5, 0, 1, 2, 3] rfl rfl rfl rfl rfl rfl rfl) hS 0 6 rfl rfl rfl rfl hl.1 rfl (Nat.le_of_ble_eq_true rfl) dX6_listen_23 ⟨Nat.zero_le _, Nat.zero_le _⟩ (fun H locs hP hD hS => ?_)
          refine z_topN ?_
          refine lv_astoreN (lv' := [(7, .null), (0, .ref (q 0)), (1, .ref (qq jh 0)), (2, .int lo2), (3, va_rf (zad qq lo3)), (4, .int lo4), (5, .int lo5), (6, .int lo6)]) hx hb dX6_listen_26 hl (by decide) rfl (fun ls hl => ?_)
          refine lv_aload_n hx hb dX6_listen_28 rfl (lv_at hl 1 rfl) ?_
          refine lv_iload_n hx hb dX6_listen_29 rfl (lv_at hl 3 rfl) ?_
          refine lv_iload hx hb dX6_listen_30 (lv_at hl 7 rfl) ?_
          obtain ⟨v18, hc19, hsp⟩ := z_b1 hsp
          refine z_callVi ⟨hx, hb, hml, hown, hts⟩ hK (c_X6_oddsBetween l dD cI cA q g fO (lo2) (lo6) v18 hc19) (cwV 2 hts gX6_listen_X6_oddsBetween rfl rfl rfl (by decide +kernel) ⟨Nat.le_of_ble_eq_true rfl, Nat.le_of_ble_eq_true rfl⟩) (zJ.ofP (X := [zX q g, zP cA (q 3) (zfm qq n), zA cI (q 4) 144 fO, zA cI (q 5) 12 to, zR (q 2) gR, zD (q 1) gD_]) (wc := [zX q g, zA cI (q 4) 144 fO]) (wc1 := [zX q g, zA cI (q 4) 144 fO]) (wr := [zP cA (q 3) (zfm qq n), zA cI (q 5) 12 to, zR (q 2) gR, zD (q 1) gD_]) (w2 := [zX q g, zP cA (q 3) (zfm qq n), zA cI (q 4) 144 fO, zA cI (q 5) 12 to, zR (q 2) gR, zD (q 1) gD_]) hP hD hS hA [0, 2] [1, 3, 4, 5] [4, 0, 5, 1, 2, 3] rfl rfl rfl rfl rfl rfl rfl) hS 0 6 rfl rfl rfl rfl hl.1 rfl (Nat.le_of_ble_eq_true rfl) dX6_listen_32 ⟨Nat.zero_le _, Nat.zero_le _⟩ (fun H locs hP hD hS => ?_)
          refine lv_istore (lv' := [(8, .int v18), (7, .null), (0, .ref (q 0)), (1, .ref (qq jh 0)), (2, .int lo2), (3, va_rf (zad qq lo3)), (4, .int lo4), (5, .int lo5), (6, .int lo6)]) hx hb dX6_listen_35 hl (by decide) rfl (fun ls hl => ?_)
          refine lv_aloadN hx hb dX6_listen_37 (lv_at hl 1 rfl) ?_
          refine lv_ifnullN (tgt := 72) hx hb dX6_listen_39 (by decide) ?_
          obtain ⟨x20, ex20, hsp⟩ := z_lt hsp
          refine lv_iinc (v := x20) (lv' := [(6, .int x20), (8, .int v18), (7, .null), (0, .ref (q 0)), (1, .ref (qq jh 0)), (2, .int lo2), (3, va_rf (zad qq lo3)), (4, .int lo4), (5, .int lo5)]) hx hb dX6_listen_72 hl (k := 8) rfl (by rw [ex20]; rfl) (by decide) rfl (fun ls hl => ?_)
          refine lv_goto (tgt := 11) hx hb dX6_listen_75 (by decide) ?_
          exact ih11 _ _ ls gD_ S_ C_ (lo2) (lo3) (lo4) (lo5) (x20) hP hD hS (lv_sub hl [3, 4, 5, 6, 7, 8, 0] rfl) hsp
        · refine z_callVq ⟨hx, hb, hml, hown, hts⟩ hK (c_X6_machineAt l dD cI cA q g (zfm qq n) (lo6) _ hc16) (cwV 1 hts gX6_listen_X6_machineAt rfl rfl rfl (by decide +kernel) ⟨Nat.le_of_ble_eq_true rfl, Nat.le_of_ble_eq_true rfl⟩) (zJ.ofP (X := [zX q g, zP cA (q 3) (zfm qq n), zA cI (q 4) 144 fO, zA cI (q 5) 12 to, zR (q 2) gR, zD (q 1) gD_]) (wc := [zX q g, zP cA (q 3) (zfm qq n)]) (wc1 := [zX q g, zP cA (q 3) (zfm qq n)]) (wr := [zA cI (q 4) 144 fO, zA cI (q 5) 12 to, zR (q 2) gR, zD (q 1) gD_]) (w2 := [zX q g, zP cA (q 3) (zfm qq n), zA cI (q 4) 144 fO, zA cI (q 5) 12 to, zR (q 2) gR, zD (q 1) gD_]) hP hD hS hA [0, 1] [2, 3, 4, 5] [4, 5, 0, 1, 2, 3] rfl rfl rfl rfl rfl rfl rfl) hS 0 6 rfl rfl rfl rfl hl.1 rfl (Nat.le_of_ble_eq_true rfl) dX6_listen_23 ⟨Nat.zero_le _, Nat.zero_le _⟩ (fun H locs hP hD hS => ?_)
          refine z_topR ?_
          refine lv_astore (lv' := [(7, .ref (qq j17 0)), (0, .ref (q 0)), (1, .ref (qq jh 0)), (2, .int lo2), (3, va_rf (zad qq lo3)), (4, .int lo4), (5, .int lo5), (6, .int lo6)]) hx hb dX6_listen_26 hl (by decide) rfl (fun ls hl => ?_)
          refine lv_aload_n hx hb dX6_listen_28 rfl (lv_at hl 1 rfl) ?_
          refine lv_iload_n hx hb dX6_listen_29 rfl (lv_at hl 3 rfl) ?_
          refine lv_iload hx hb dX6_listen_30 (lv_at hl 7 rfl) ?_
          obtain ⟨v21, hc22, hsp⟩ := z_b1 hsp
          refine z_callVi ⟨hx, hb, hml, hown, hts⟩ hK (c_X6_oddsBetween l dD cI cA q g fO (lo2) (lo6) v21 hc22) (cwV 2 hts gX6_listen_X6_oddsBetween rfl rfl rfl (by decide +kernel) ⟨Nat.le_of_ble_eq_true rfl, Nat.le_of_ble_eq_true rfl⟩) (zJ.ofP (X := [zX q g, zP cA (q 3) (zfm qq n), zA cI (q 4) 144 fO, zA cI (q 5) 12 to, zR (q 2) gR, zD (q 1) gD_]) (wc := [zX q g, zA cI (q 4) 144 fO]) (wc1 := [zX q g, zA cI (q 4) 144 fO]) (wr := [zP cA (q 3) (zfm qq n), zA cI (q 5) 12 to, zR (q 2) gR, zD (q 1) gD_]) (w2 := [zX q g, zP cA (q 3) (zfm qq n), zA cI (q 4) 144 fO, zA cI (q 5) 12 to, zR (q 2) gR, zD (q 1) gD_]) hP hD hS hA [0, 2] [1, 3, 4, 5] [4, 0, 5, 1, 2, 3] rfl rfl rfl rfl rfl rfl rfl) hS 0 6 rfl rfl rfl rfl hl.1 rfl (Nat.le_of_ble_eq_true rfl) dX6_listen_32 ⟨Nat.zero_le _, Nat.zero_le _⟩ (fun H locs hP hD hS => ?_)
          refine lv_istore (lv' := [(8, .int v21), (7, .ref (qq j17 0)), (0, .ref (q 0)), (1, .ref (qq jh 0)), (2, .int lo2), (3, va_rf (zad qq lo3)), (4, .int lo4), (5, .int lo5), (6, .int lo6)]) hx hb dX6_listen_35 hl (by decide) rfl (fun ls hl => ?_)
          refine lv_aload hx hb dX6_listen_37 (lv_at hl 1 rfl) ?_
          refine lv_ifnull hx hb dX6_listen_39 ?_
          refine lv_aload hx hb dX6_listen_42 (lv_at hl 1 rfl) ?_
          obtain ⟨hP, hD⟩ := z_foc (fx := [zX q g, zP cA (q 3) (zfm qq n), zA cI (q 4) 144 fO, zA cI (q 5) 12 to, zR (q 2) gR, zD (q 1) gD_]) hj17 hP hD
          have hP : va_P dD vwCl ([zX q g, zP cA (q 3) (zfm qq n), zA cI (q 4) 144 fO, zA cI (q 5) 12 to, zR (q 2) gR, zD (q 1) gD_, zM (qq j17) (q 2) (q 1) (zad qq (C_ j17)) (S_ j17 0), zB (qq j17) (S_ j17 1), zA cI (qq j17 2) 12 (S_ j17 2), zA cI (qq j17 3) 12 (S_ j17 3), zI (qq j17) (S_ j17 4), zL (qq j17 5) (S_ j17 5)] ++ zRest cI q qq n j17 S_ C_) H := hP
          have hD : va_D A ([zX q g, zP cA (q 3) (zfm qq n), zA cI (q 4) 144 fO, zA cI (q 5) 12 to, zR (q 2) gR, zD (q 1) gD_, zM (qq j17) (q 2) (q 1) (zad qq (C_ j17)) (S_ j17 0), zB (qq j17) (S_ j17 1), zA cI (qq j17 2) 12 (S_ j17 2), zA cI (qq j17 3) 12 (S_ j17 3), zI (qq j17) (S_ j17 4), zL (qq j17 5) (S_ j17 5)] ++ zRest cI q qq n j17 S_ C_) := hD
          refine va_getN (D := dD) (ci := 4) (v := .ref (qq j17 5)) (C := RX4) (T := TX4) (N := 18) hx hb hts iX4 hown hK.1 hP 6 rfl rfl 4 (by decide) f176 (fun _ h9 => h9) rfl dX6_listen_44 ?_
          obtain ⟨v23, hc24, hsp⟩ := z_b1 hsp
          refine z_callVi ⟨hx, hb, hml, hown, hts⟩ hK (c_X3_isSent l dD cI cA (qq j17 5) (S_ j17 5) v23 hc24) (cwV 0 hts gX6_listen_X3_isSent rfl rfl rfl (by decide +kernel) ⟨Nat.le_of_ble_eq_true rfl, Nat.le_of_ble_eq_true rfl⟩) (zJ.ofP (X := [zX q g, zP cA (q 3) (zfm qq n), zA cI (q 4) 144 fO, zA cI (q 5) 12 to, zR (q 2) gR, zD (q 1) gD_, zM (qq j17) (q 2) (q 1) (zad qq (C_ j17)) (S_ j17 0), zB (qq j17) (S_ j17 1), zA cI (qq j17 2) 12 (S_ j17 2), zA cI (qq j17 3) 12 (S_ j17 3), zI (qq j17) (S_ j17 4), zL (qq j17 5) (S_ j17 5)]) (wc := [zL (qq j17 5) (S_ j17 5)]) (wc1 := [zL (qq j17 5) (S_ j17 5)]) (wr := [zX q g, zP cA (q 3) (zfm qq n), zA cI (q 4) 144 fO, zA cI (q 5) 12 to, zR (q 2) gR, zD (q 1) gD_, zM (qq j17) (q 2) (q 1) (zad qq (C_ j17)) (S_ j17 0), zB (qq j17) (S_ j17 1), zA cI (qq j17 2) 12 (S_ j17 2), zA cI (qq j17 3) 12 (S_ j17 3), zI (qq j17) (S_ j17 4)]) (w2 := [zX q g, zP cA (q 3) (zfm qq n), zA cI (q 4) 144 fO, zA cI (q 5) 12 to, zR (q 2) gR, zD (q 1) gD_, zM (qq j17) (q 2) (q 1) (zad qq (C_ j17)) (S_ j17 0), zB (qq j17) (S_ j17 1), zA cI (qq j17 2) 12 (S_ j17 2), zA cI (qq j17 3) 12 (S_ j17 3), zI (qq j17) (S_ j17 4), zL (qq j17 5) (S_ j17 5)]) hP hD hS hA [11] [0, 1, 2, 3, 4, 5, 6, 7, 8, 9, 10] [0, 1, 2, 3, 4, 5, 6, 7, 8, 9, 10, 11] rfl rfl rfl rfl rfl rfl rfl) hS 0 3 rfl rfl rfl rfl hl.1 rfl (Nat.le_of_ble_eq_true rfl) dX6_listen_47 ⟨Nat.zero_le _, Nat.zero_le _⟩ (fun H locs hP hD hS => ?_)
          refine lv_if_eq (tgt := 72) hx hb dX6_listen_50 (by decide) (fun c25 => ?_) (fun c25 => ?_)
          · have hsp := z_t c25 hsp
            obtain ⟨x26, ex26, hsp⟩ := z_lt hsp
            refine lv_iinc (v := x26) (lv' := [(6, .int x26), (8, .int v21), (7, .ref (qq j17 0)), (0, .ref (q 0)), (1, .ref (qq jh 0)), (2, .int lo2), (3, va_rf (zad qq lo3)), (4, .int lo4), (5, .int lo5)]) hx hb dX6_listen_72 hl (k := 8) rfl (by rw [ex26]; rfl) (by decide) rfl (fun ls hl => ?_)
            refine lv_goto (tgt := 11) hx hb dX6_listen_75 (by decide) ?_
            obtain ⟨hP, hD⟩ := z_unf0 [zX q g, zP cA (q 3) (zfm qq n), zA cI (q 4) 144 fO, zA cI (q 5) 12 to, zR (q 2) gR, zD (q 1) gD_] hj17 hP hD
            have hP : va_P dD vwCl ([zX q g, zP cA (q 3) (zfm qq n), zA cI (q 4) 144 fO, zA cI (q 5) 12 to, zR (q 2) gR, zD (q 1) gD_] ++ zPool cI q qq n S_ C_) H := hP
            have hD : va_D A ([zX q g, zP cA (q 3) (zfm qq n), zA cI (q 4) 144 fO, zA cI (q 5) 12 to, zR (q 2) gR, zD (q 1) gD_] ++ zPool cI q qq n S_ C_) := hD
            exact ih11 _ _ ls gD_ S_ C_ (lo2) (lo3) (lo4) (lo5) (x26) hP hD hS (lv_sub hl [3, 4, 5, 6, 7, 8, 0] rfl) hsp
          · have hsp := z_f c25 hsp
            refine lv_iload hx hb dX6_listen_53 (lv_at hl 0 rfl) ?_
            refine lv_iconst (v := (-1)) hx hb dX6_listen_55 (by decide) ?_
            refine lv_icmp_eq (tgt := 72) hx hb dX6_listen_56 (by decide) (fun c27 => ?_) (fun c27 => ?_)
            · have hsp := z_t c27 hsp
              obtain ⟨x28, ex28, hsp⟩ := z_lt hsp
              refine lv_iinc (v := x28) (lv' := [(6, .int x28), (8, .int v21), (7, .ref (qq j17 0)), (0, .ref (q 0)), (1, .ref (qq jh 0)), (2, .int lo2), (3, va_rf (zad qq lo3)), (4, .int lo4), (5, .int lo5)]) hx hb dX6_listen_72 hl (k := 8) rfl (by rw [ex28]; rfl) (by decide) rfl (fun ls hl => ?_)
              refine lv_goto (tgt := 11) hx hb dX6_listen_75 (by decide) ?_
              obtain ⟨hP, hD⟩ := z_unf0 [zX q g, zP cA (q 3) (zfm qq n), zA cI (q 4) 144 fO, zA cI (q 5) 12 to, zR (q 2) gR, zD (q 1) gD_] hj17 hP hD
              have hP : va_P dD vwCl ([zX q g, zP cA (q 3) (zfm qq n), zA cI (q 4) 144 fO, zA cI (q 5) 12 to, zR (q 2) gR, zD (q 1) gD_] ++ zPool cI q qq n S_ C_) H := hP
              have hD : va_D A ([zX q g, zP cA (q 3) (zfm qq n), zA cI (q 4) 144 fO, zA cI (q 5) 12 to, zR (q 2) gR, zD (q 1) gD_] ++ zPool cI q qq n S_ C_) := hD
              exact ih11 _ _ ls gD_ S_ C_ (lo2) (lo3) (lo4) (lo5) (x28) hP hD hS (lv_sub hl [3, 4, 5, 6, 7, 8, 0] rfl) hsp
            · have hsp := z_f c27 hsp
              refine lv_aload hx hb dX6_listen_59 (lv_at hl 1 rfl) ?_
              refine va_getN (D := dD) (ci := 4) (v := .ref (qq j17 5)) (C := RX4) (T := TX4) (N := 18) hx hb hts iX4 hown hK.1 hP 6 rfl rfl 4 (by decide) f176 (fun _ h9 => h9) rfl dX6_listen_61 ?_
              refine lv_astore_n (lv' := [(3, .ref (qq j17 5)), (8, .int v21), (7, .ref (qq j17 0)), (0, .ref (q 0)), (1, .ref (qq jh 0)), (2, .int lo2), (4, .int lo4), (5, .int lo5), (6, .int lo6)]) hx hb dX6_listen_64 rfl hl (by decide) rfl (fun ls hl => ?_)
              refine lv_iload hx hb dX6_listen_65 (lv_at hl 1 rfl) ?_
              refine lv_istore (lv' := [(4, .int v21), (3, .ref (qq j17 5)), (8, .int v21), (7, .ref (qq j17 0)), (0, .ref (q 0)), (1, .ref (qq jh 0)), (2, .int lo2), (5, .int lo5), (6, .int lo6)]) hx hb dX6_listen_67 hl (by decide) rfl (fun ls hl => ?_)
              obtain ⟨x29, ex29, hsp⟩ := z_lt hsp
              refine lv_iinc (v := x29) (lv' := [(5, .int x29), (4, .int v21), (3, .ref (qq j17 5)), (8, .int v21), (7, .ref (qq j17 0)), (0, .ref (q 0)), (1, .ref (qq jh 0)), (2, .int lo2), (6, .int lo6)]) hx hb dX6_listen_69 hl (k := 7) rfl (by rw [ex29]; rfl) (by decide) rfl (fun ls hl => ?_)
              obtain ⟨x30, ex30, hsp⟩ := z_lt hsp
              refine lv_iinc (v := x30) (lv' := [(6, .int x30), (5, .int x29), (4, .int v21), (3, .ref (qq j17 5)), (8, .int v21), (7, .ref (qq j17 0)), (0, .ref (q 0)), (1, .ref (qq jh 0)), (2, .int lo2)]) hx hb dX6_listen_72 hl (k := 8) rfl (by rw [ex30]; rfl) (by decide) rfl (fun ls hl => ?_)
              refine lv_goto (tgt := 11) hx hb dX6_listen_75 (by decide) ?_
              obtain ⟨hP, hD⟩ := z_unf0 [zX q g, zP cA (q 3) (zfm qq n), zA cI (q 4) 144 fO, zA cI (q 5) 12 to, zR (q 2) gR, zD (q 1) gD_] hj17 hP hD
              have hP : va_P dD vwCl ([zX q g, zP cA (q 3) (zfm qq n), zA cI (q 4) 144 fO, zA cI (q 5) 12 to, zR (q 2) gR, zD (q 1) gD_] ++ zPool cI q qq n S_ C_) H := hP
              have hD : va_D A ([zX q g, zP cA (q 3) (zfm qq n), zA cI (q 4) 144 fO, zA cI (q 5) 12 to, zR (q 2) gR, zD (q 1) gD_] ++ zPool cI q qq n S_ C_) := hD
              exact ih11 _ _ ls gD_ S_ C_ (lo2) ((some j17)) (v21) (x29) (x30) hP hD hS (lv_sub hl [6, 7, 8, 3, 2, 1, 0] rfl) hsp
  unfold s_X6_listen at hsp
  refine lv_null hx hb dX6_listen_0 ?_
  refine lv_astore_nN (lv' := [(3, .null), (0, .ref (q 0)), (1, .ref (qq jh 0)), (2, .int p1)]) hx hb dX6_listen_1 rfl hl (by decide) rfl (fun ls hl => ?_)
  refine lv_iconst (v := (-1)) hx hb dX6_listen_2 (by decide) ?_
  refine lv_istore (lv' := [(4, .int (-1)), (3, .null), (0, .ref (q 0)), (1, .ref (qq jh 0)), (2, .int p1)]) hx hb dX6_listen_3 hl (by decide) rfl (fun ls hl => ?_)
  refine lv_iconst (v := 0) hx hb dX6_listen_5 (by decide) ?_
  refine lv_istore (lv' := [(5, .int 0), (4, .int (-1)), (3, .null), (0, .ref (q 0)), (1, .ref (qq jh 0)), (2, .int p1)]) hx hb dX6_listen_6 hl (by decide) rfl (fun ls hl => ?_)
  refine lv_iconst (v := 0) hx hb dX6_listen_8 (by decide) ?_
  refine lv_istore (lv' := [(6, .int 0), (5, .int 0), (4, .int (-1)), (3, .null), (0, .ref (q 0)), (1, .ref (qq jh 0)), (2, .int p1)]) hx hb dX6_listen_9 hl (by decide) rfl (fun ls hl => ?_)
  exact K_11 13 _ _ ls gD S C (p1) (none) ((-1)) (0) (0) hP hD hS (lv_sub hl [4, 5, 6, 3, 2, 1, 0] rfl) hsp
def s_X6_hearLetters_b2 (g : zF) (fO : zF) (to : zF) (gR : zF) (n : Nat) : Nat → (zF) → (Nat → Nat → zF) → (Nat → Option Nat) → (Int32) → Option ((zF) × (Nat → Nat → zF) × (Nat → Option Nat))
  | 0, _, _, _, _ => none
  | n2 + 1, gD_, S_, C_, lo1 => (if (g 5) ≤ lo1 then some (gD_, S_, C_) else (zat n g (lo1) (zl (lo1 + 1) fun (x4 : Int32) => (s_X6_hearLetters_b2 g fO to gR n n2 gD_ S_ C_ (x4))) fun (j3 : Nat) => zb1 (s_X3_isSent (S_ j3 5)) fun (v5 : Int32) => (if v5 = 0 then zl (va_up S_ j3 (zs6 (S_ j3 0) (S_ j3 1) (S_ j3 2) (S_ j3 3) (S_ j3 4) (S_ j3 5))) fun (S11 : Nat → Nat → zF) => zl (va_up C_ j3 none) fun (C12 : Nat → Option Nat) => zb3 (s_X6_listen g fO to gR gD_ S11 C12 n j3 (lo1)) fun (gD13 : zF) (S14 : Nat → Nat → zF) (C15 : Nat → Option Nat) => zl (lo1 + 1) fun (x17 : Int32) => (s_X6_hearLetters_b2 g fO to gR n n2 gD13 S14 C15 (x17)) else zl (lo1 + 1) fun (x8 : Int32) => zl (va_up S_ j3 (zs6 (S_ j3 0) (S_ j3 1) (S_ j3 2) (S_ j3 3) (S_ j3 4) (S_ j3 5))) fun (S9 : Nat → Nat → zF) => zl (va_up C_ j3 none) fun (C10 : Nat → Option Nat) => (s_X6_hearLetters_b2 g fO to gR n n2 gD_ S9 C10 (x8)))))
def s_X6_hearLetters (g : zF) (fO : zF) (to : zF) (gR : zF) (gD : zF) (S : Nat → Nat → zF) (C : Nat → Option Nat) (n : Nat) : Option ((zF) × (Nat → Nat → zF) × (Nat → Option Nat)) := (s_X6_hearLetters_b2 g fO to gR n 13 gD S C (0))
abbrev rm_X6_hearLetters : Room := { frames := 4, cells := 0, slots := 0, locals := 96 }
set_option maxHeartbeats 4000000 in
set_option maxRecDepth 100000 in
theorem c_X6_hearLetters (l : Launch) (dD : va_G) (cI cA : ClassId) (q : Nat → Nat) (qq : Nat → Nat → Nat) (n : Nat) (hn12 : n ≤ 12) (g : zF) (fO : zF) (to : zF) (gR : zF) (gD : zF) (S : Nat → Nat → zF) (C : Nat → Option Nat) (r_gD : zF) (r_S : Nat → Nat → zF) (r_C : Nat → Option Nat) (hsp : s_X6_hearLetters g fO to gR gD S C n = some (r_gD, r_S, r_C)) : zMv l yX6_hearLetters wsX6_hearLetters rm_X6_hearLetters dD cI cA [.ref (q 0)] ([zX q g, zP cA (q 3) (zfm qq n), zA cI (q 4) 144 fO, zA cI (q 5) 12 to, zR (q 2) gR, zD (q 1) gD] ++ zPool cI q qq n S C) ([zX q g, zP cA (q 3) (zfm qq n), zA cI (q 4) 144 fO, zA cI (q 5) 12 to, zR (q 2) gR, zD (q 1) r_gD] ++ zPool cI q qq n r_S r_C) := by
  refine zMv_of (cc := cX6_hearLetters) (maxL := 3) (by decide) rfl (Nat.le_of_ble_eq_true rfl) ?_
  intro p e s m args below meth c A Q ls hx hb hml hown hts hK hA hP hD hl hret
  have hown : s.vm.findClass RX6 = some m.cls := hown
  have iX6 : ∀ w ∈ wsX60, w ∈ wsX6_hearLetters := by decide +kernel
  have iX4 : ∀ w ∈ wsX40, w ∈ wsX6_hearLetters := by decide +kernel
  have f53 := hts (.fieldLink RX6 53 "MeshField" "machineCount" "I") (by decide +kernel)
  have f172 : (Cond.fieldLinkNest RX6 172 "MeshField$Machine" "caught" "LMeshField$Letter;" "MeshField").before args s = true := hK.nw (by decide +kernel)
  have f176 : (Cond.fieldLinkNest RX6 176 "MeshField$Machine" "letter" "LMeshField$Letter;" "MeshField").before args s = true := hK.nw (by decide +kernel)
  have hS : va_S A s.heap s.heap [] := va_S.rf
  have hl : lv_has ls 3 [(0, .ref (q 0))] := hl
  have K_2 : ∀ (nf : Nat) (H : Heap) (locs : List Loc) (ls : Array Slot) (gD_ : zF) (S_ : Nat → Nat → zF) (C_ : Nat → Option Nat) (lo1 : Int32), va_P dD vwCl ([zX q g, zP cA (q 3) (zfm qq n), zA cI (q 4) 144 fO, zA cI (q 5) 12 to, zR (q 2) gR, zD (q 1) gD_] ++ zPool cI q qq n S_ C_) H → va_D A ([zX q g, zP cA (q 3) (zfm qq n), zA cI (q 4) 144 fO, zA cI (q 5) 12 to, zR (q 2) gR, zD (q 1) gD_] ++ zPool cI q qq n S_ C_) → va_S A s.heap H locs → lv_has ls 3 [(0, .ref (q 0)), (1, .int lo1)] → s_X6_hearLetters_b2 g fO to gR n nf gD_ S_ C_ lo1 = some (r_gD, r_S, r_C) → W p l e rm_X6_hearLetters s m args below meth c H locs 0 0 Q (F0 m 2 ls []) := by
    intro nf
    induction nf with
    | zero =>
      intro H locs ls gD_ S_ C_ lo1 hP hD hS hl hsp
      exact absurd (show (none : Option ((zF) × (Nat → Nat → zF) × (Nat → Option Nat))) = some (r_gD, r_S, r_C) from hsp) (fun h => by cases h)
    | succ n2 ih2 =>
      intro H locs ls gD_ S_ C_ lo1 hP hD hS hl hsp
      rw [s_X6_hearLetters_b2] at hsp
      refine lv_iload_n hx hb dX6_hearLetters_2 rfl (lv_at hl 1 rfl) ?_
      refine lv_aload_n hx hb dX6_hearLetters_3 rfl (lv_at hl 0 rfl) ?_
      refine va_get (D := dD) (ci := 6) (v := .int (g 5)) (C := RX6) (T := TX6) (N := 10) hx hb hts iX6 hown hK.1 hP 0 rfl rfl 5 (by decide) f53 (fun _ h9 => h9) rfl dX6_hearLetters_4 ?_
      refine lv_icmp_ge (tgt := 47) hx hb dX6_hearLetters_7 (by decide) (fun c1 => ?_) (fun c1 => ?_)
      · have hsp := z_t c1 hsp
        obtain ⟨rfl, rfl, rfl⟩ := z_i3 hsp
        exact hret _ _ ls 47 dX6_hearLetters_47 hP hD hS
      · have hsp := z_f c1 hsp
        refine lv_aload_n hx hb dX6_hearLetters_10 rfl (lv_at hl 0 rfl) ?_
        refine lv_iload_n hx hb dX6_hearLetters_11 rfl (lv_at hl 1 rfl) ?_
        rcases z_at (qq := qq) hn12 hsp with ⟨hc2, hsp⟩ | ⟨j3, hj3, ej3, hc2, hsp⟩
        · refine z_callVq ⟨hx, hb, hml, hown, hts⟩ hK (c_X6_machineAt l dD cI cA q g (zfm qq n) (lo1) _ hc2) (cwV 1 hts gX6_hearLetters_X6_machineAt rfl rfl rfl (by decide +kernel) ⟨Nat.le_of_ble_eq_true rfl, Nat.le_of_ble_eq_true rfl⟩) (zJ.ofP (X := [zX q g, zP cA (q 3) (zfm qq n), zA cI (q 4) 144 fO, zA cI (q 5) 12 to, zR (q 2) gR, zD (q 1) gD_]) (wc := [zX q g, zP cA (q 3) (zfm qq n)]) (wc1 := [zX q g, zP cA (q 3) (zfm qq n)]) (wr := [zA cI (q 4) 144 fO, zA cI (q 5) 12 to, zR (q 2) gR, zD (q 1) gD_]) (w2 := [zX q g, zP cA (q 3) (zfm qq n), zA cI (q 4) 144 fO, zA cI (q 5) 12 to, zR (q 2) gR, zD (q 1) gD_]) hP hD hS hA [0, 1] [2, 3, 4, 5] [4, 5, 0, 1, 2, 3] rfl rfl rfl rfl rfl rfl rfl) hS 0 6 rfl rfl rfl rfl hl.1 rfl (Nat.le_of_ble_eq_true rfl) dX6_hearLetters_12 ⟨Nat.zero_le _, Nat.zero_le _⟩ (fun H locs hP hD hS => ?_)
          refine z_topN ?_
          refine lv_astore_nN (lv' := [(2, .null), (0, .ref (q 0)), (1, .int lo1)]) hx hb dX6_hearLetters_15 rfl hl (by decide) rfl (fun ls hl => ?_)
          refine lv_aload_nN hx hb dX6_hearLetters_16 rfl (lv_at hl 0 rfl) ?_
          refine lv_ifnullN (tgt := 41) hx hb dX6_hearLetters_17 (by decide) ?_
          obtain ⟨x4, ex4, hsp⟩ := z_lt hsp
          refine lv_iinc (v := x4) (lv' := [(1, .int x4), (2, .null), (0, .ref (q 0))]) hx hb dX6_hearLetters_41 hl (k := 2) rfl (by rw [ex4]; rfl) (by decide) rfl (fun ls hl => ?_)
          refine lv_goto (tgt := 2) hx hb dX6_hearLetters_44 (by decide) ?_
          exact ih2 _ _ ls gD_ S_ C_ (x4) hP hD hS (lv_sub hl [2, 0] rfl) hsp
        · refine z_callVq ⟨hx, hb, hml, hown, hts⟩ hK (c_X6_machineAt l dD cI cA q g (zfm qq n) (lo1) _ hc2) (cwV 1 hts gX6_hearLetters_X6_machineAt rfl rfl rfl (by decide +kernel) ⟨Nat.le_of_ble_eq_true rfl, Nat.le_of_ble_eq_true rfl⟩) (zJ.ofP (X := [zX q g, zP cA (q 3) (zfm qq n), zA cI (q 4) 144 fO, zA cI (q 5) 12 to, zR (q 2) gR, zD (q 1) gD_]) (wc := [zX q g, zP cA (q 3) (zfm qq n)]) (wc1 := [zX q g, zP cA (q 3) (zfm qq n)]) (wr := [zA cI (q 4) 144 fO, zA cI (q 5) 12 to, zR (q 2) gR, zD (q 1) gD_]) (w2 := [zX q g, zP cA (q 3) (zfm qq n), zA cI (q 4) 144 fO, zA cI (q 5) 12 to, zR (q 2) gR, zD (q 1) gD_]) hP hD hS hA [0, 1] [2, 3, 4, 5] [4, 5, 0, 1, 2, 3] rfl rfl rfl rfl rfl rfl rfl) hS 0 6 rfl rfl rfl rfl hl.1 rfl (Nat.le_of_ble_eq_true rfl) dX6_hearLetters_12 ⟨Nat.zero_le _, Nat.zero_le _⟩ (fun H locs hP hD hS => ?_)
          refine z_topR ?_
          refine lv_astore_n (lv' := [(2, .ref (qq j3 0)), (0, .ref (q 0)), (1, .int lo1)]) hx hb dX6_hearLetters_15 rfl hl (by decide) rfl (fun ls hl => ?_)
          refine lv_aload_n hx hb dX6_hearLetters_16 rfl (lv_at hl 0 rfl) ?_
          refine lv_ifnull hx hb dX6_hearLetters_17 ?_
          refine lv_aload_n hx hb dX6_hearLetters_20 rfl (lv_at hl 0 rfl) ?_
          refine lv_null hx hb dX6_hearLetters_21 ?_
          obtain ⟨hP, hD⟩ := z_foc (fx := [zX q g, zP cA (q 3) (zfm qq n), zA cI (q 4) 144 fO, zA cI (q 5) 12 to, zR (q 2) gR, zD (q 1) gD_]) hj3 hP hD
          have hP : va_P dD vwCl ([zX q g, zP cA (q 3) (zfm qq n), zA cI (q 4) 144 fO, zA cI (q 5) 12 to, zR (q 2) gR, zD (q 1) gD_, zM (qq j3) (q 2) (q 1) (zad qq (C_ j3)) (S_ j3 0), zB (qq j3) (S_ j3 1), zA cI (qq j3 2) 12 (S_ j3 2), zA cI (qq j3 3) 12 (S_ j3 3), zI (qq j3) (S_ j3 4), zL (qq j3 5) (S_ j3 5)] ++ zRest cI q qq n j3 S_ C_) H := hP
          have hD : va_D A ([zX q g, zP cA (q 3) (zfm qq n), zA cI (q 4) 144 fO, zA cI (q 5) 12 to, zR (q 2) gR, zD (q 1) gD_, zM (qq j3) (q 2) (q 1) (zad qq (C_ j3)) (S_ j3 0), zB (qq j3) (S_ j3 1), zA cI (qq j3 2) 12 (S_ j3 2), zA cI (qq j3 3) 12 (S_ j3 3), zI (qq j3) (S_ j3 4), zL (qq j3 5) (S_ j3 5)] ++ zRest cI q qq n j3 S_ C_) := hD
          refine va_putN (D := dD) (ci := 4) (v := va_rf (zad qq none)) (ty := .object "MeshField$Letter") (C := RX4) (T := TX4) (N := 18) hx hb hts iX4 tyX4 tyX4_ok nmX4 hown hK.1 hP hD hS 6 rfl rfl 5 (by decide) f172 (fun _ h9 => h9) rfl (by decide +kernel) (z_narq _ _) (z_fitq _ _) (Nat.le_of_ble_eq_true rfl) dX6_hearLetters_22 (fun H locs hP hD hS => ?_)
          have hP : va_P dD vwCl ([zX q g, zP cA (q 3) (zfm qq n), zA cI (q 4) 144 fO, zA cI (q 5) 12 to, zR (q 2) gR, zD (q 1) gD_, zM (qq j3) (q 2) (q 1) (zad qq none) (S_ j3 0), zB (qq j3) (S_ j3 1), zA cI (qq j3 2) 12 (S_ j3 2), zA cI (qq j3 3) 12 (S_ j3 3), zI (qq j3) (S_ j3 4), zL (qq j3 5) (S_ j3 5)] ++ zRest cI q qq n j3 S_ C_) H := hP
          have hD : va_D A ([zX q g, zP cA (q 3) (zfm qq n), zA cI (q 4) 144 fO, zA cI (q 5) 12 to, zR (q 2) gR, zD (q 1) gD_, zM (qq j3) (q 2) (q 1) (zad qq none) (S_ j3 0), zB (qq j3) (S_ j3 1), zA cI (qq j3 2) 12 (S_ j3 2), zA cI (qq j3 3) 12 (S_ j3 3), zI (qq j3) (S_ j3 4), zL (qq j3 5) (S_ j3 5)] ++ zRest cI q qq n j3 S_ C_) := hD
          refine lv_aload_n hx hb dX6_hearLetters_25 rfl (lv_at hl 0 rfl) ?_
          refine va_getN (D := dD) (ci := 4) (v := .ref (qq j3 5)) (C := RX4) (T := TX4) (N := 18) hx hb hts iX4 hown hK.1 hP 6 rfl rfl 4 (by decide) f176 (fun _ h9 => h9) rfl dX6_hearLetters_26 ?_
          obtain ⟨v5, hc6, hsp⟩ := z_b1 hsp
          refine z_callVi ⟨hx, hb, hml, hown, hts⟩ hK (c_X3_isSent l dD cI cA (qq j3 5) (S_ j3 5) v5 hc6) (cwV 0 hts gX6_hearLetters_X3_isSent rfl rfl rfl (by decide +kernel) ⟨Nat.le_of_ble_eq_true rfl, Nat.le_of_ble_eq_true rfl⟩) (zJ.ofP (X := [zX q g, zP cA (q 3) (zfm qq n), zA cI (q 4) 144 fO, zA cI (q 5) 12 to, zR (q 2) gR, zD (q 1) gD_, zM (qq j3) (q 2) (q 1) (zad qq none) (S_ j3 0), zB (qq j3) (S_ j3 1), zA cI (qq j3 2) 12 (S_ j3 2), zA cI (qq j3 3) 12 (S_ j3 3), zI (qq j3) (S_ j3 4), zL (qq j3 5) (S_ j3 5)]) (wc := [zL (qq j3 5) (S_ j3 5)]) (wc1 := [zL (qq j3 5) (S_ j3 5)]) (wr := [zX q g, zP cA (q 3) (zfm qq n), zA cI (q 4) 144 fO, zA cI (q 5) 12 to, zR (q 2) gR, zD (q 1) gD_, zM (qq j3) (q 2) (q 1) (zad qq none) (S_ j3 0), zB (qq j3) (S_ j3 1), zA cI (qq j3 2) 12 (S_ j3 2), zA cI (qq j3 3) 12 (S_ j3 3), zI (qq j3) (S_ j3 4)]) (w2 := [zX q g, zP cA (q 3) (zfm qq n), zA cI (q 4) 144 fO, zA cI (q 5) 12 to, zR (q 2) gR, zD (q 1) gD_, zM (qq j3) (q 2) (q 1) (zad qq none) (S_ j3 0), zB (qq j3) (S_ j3 1), zA cI (qq j3 2) 12 (S_ j3 2), zA cI (qq j3 3) 12 (S_ j3 3), zI (qq j3) (S_ j3 4), zL (qq j3 5) (S_ j3 5)]) hP hD hS hA [11] [0, 1, 2, 3, 4, 5, 6, 7, 8, 9, 10] [0, 1, 2, 3, 4, 5, 6, 7, 8, 9, 10, 11] rfl rfl rfl rfl rfl rfl rfl) hS 0 3 rfl rfl rfl rfl hl.1 rfl (Nat.le_of_ble_eq_true rfl) dX6_hearLetters_29 ⟨Nat.zero_le _, Nat.zero_le _⟩ (fun H locs hP hD hS => ?_)
          refine lv_if_ne (tgt := 41) hx hb dX6_hearLetters_32 (by decide) (fun c7 => ?_) (fun c7 => ?_)
          · have hsp := z_f c7 hsp
            obtain ⟨x8, ex8, hsp⟩ := z_lt hsp
            refine lv_iinc (v := x8) (lv' := [(1, .int x8), (2, .ref (qq j3 0)), (0, .ref (q 0))]) hx hb dX6_hearLetters_41 hl (k := 2) rfl (by rw [ex8]; rfl) (by decide) rfl (fun ls hl => ?_)
            refine lv_goto (tgt := 2) hx hb dX6_hearLetters_44 (by decide) ?_
            obtain ⟨S9, eS9, hsp⟩ := z_lt hsp
            obtain ⟨C10, eC10, hsp⟩ := z_lt hsp
            obtain ⟨hP, hD⟩ := z_unf [zX q g, zP cA (q 3) (zfm qq n), zA cI (q 4) 144 fO, zA cI (q 5) 12 to, zR (q 2) gR, zD (q 1) gD_] (c := none) (gM := (S_ j3 0)) (gB := (S_ j3 1)) (mk := (S_ j3 2)) (mx := (S_ j3 3)) (gI := (S_ j3 4)) (gL := (S_ j3 5)) hj3 hP hD
            rw [← eS9, ← eC10] at hP hD
            have hP : va_P dD vwCl ([zX q g, zP cA (q 3) (zfm qq n), zA cI (q 4) 144 fO, zA cI (q 5) 12 to, zR (q 2) gR, zD (q 1) gD_] ++ zPool cI q qq n S9 C10) H := hP
            have hD : va_D A ([zX q g, zP cA (q 3) (zfm qq n), zA cI (q 4) 144 fO, zA cI (q 5) 12 to, zR (q 2) gR, zD (q 1) gD_] ++ zPool cI q qq n S9 C10) := hD
            exact ih2 _ _ ls gD_ S9 C10 (x8) hP hD hS (lv_sub hl [2, 0] rfl) hsp
          · have hsp := z_t c7 hsp
            refine lv_aload_n hx hb dX6_hearLetters_35 rfl (lv_at hl 1 rfl) ?_
            refine lv_aload_n hx hb dX6_hearLetters_36 rfl (lv_at hl 0 rfl) ?_
            refine lv_iload_n hx hb dX6_hearLetters_37 rfl (lv_at hl 2 rfl) ?_
            obtain ⟨S11, eS11, hsp⟩ := z_lt hsp
            obtain ⟨C12, eC12, hsp⟩ := z_lt hsp
            obtain ⟨hP, hD⟩ := z_unf [zX q g, zP cA (q 3) (zfm qq n), zA cI (q 4) 144 fO, zA cI (q 5) 12 to, zR (q 2) gR, zD (q 1) gD_] (c := none) (gM := (S_ j3 0)) (gB := (S_ j3 1)) (mk := (S_ j3 2)) (mx := (S_ j3 3)) (gI := (S_ j3 4)) (gL := (S_ j3 5)) hj3 hP hD
            rw [← eS11, ← eC12] at hP hD
            have hP : va_P dD vwCl ([zX q g, zP cA (q 3) (zfm qq n), zA cI (q 4) 144 fO, zA cI (q 5) 12 to, zR (q 2) gR, zD (q 1) gD_] ++ zPool cI q qq n S11 C12) H := hP
            have hD : va_D A ([zX q g, zP cA (q 3) (zfm qq n), zA cI (q 4) 144 fO, zA cI (q 5) 12 to, zR (q 2) gR, zD (q 1) gD_] ++ zPool cI q qq n S11 C12) := hD
            obtain ⟨gD13, S14, C15, hc16, hsp⟩ := z_b3 hsp
            refine z_callVv ⟨hx, hb, hml, hown, hts⟩ hK (c_X6_listen l dD cI cA q qq n hn12 j3 hj3 g fO to gR gD_ S11 C12 (lo1) gD13 S14 C15 hc16) (cwV 2 hts gX6_hearLetters_X6_listen rfl rfl rfl (by decide +kernel) ⟨Nat.le_of_ble_eq_true rfl, Nat.le_of_ble_eq_true rfl⟩) (zJ.full hP hD hS hA) hS 0 6 rfl rfl rfl rfl hl.1 rfl (Nat.le_of_ble_eq_true rfl) dX6_hearLetters_38 ⟨Nat.zero_le _, Nat.zero_le _⟩ (fun H locs hP hD hS => ?_)
            obtain ⟨x17, ex17, hsp⟩ := z_lt hsp
            refine lv_iinc (v := x17) (lv' := [(1, .int x17), (2, .ref (qq j3 0)), (0, .ref (q 0))]) hx hb dX6_hearLetters_41 hl (k := 2) rfl (by rw [ex17]; rfl) (by decide) rfl (fun ls hl => ?_)
            refine lv_goto (tgt := 2) hx hb dX6_hearLetters_44 (by decide) ?_
            exact ih2 _ _ ls gD13 S14 C15 (x17) hP hD hS (lv_sub hl [2, 0] rfl) hsp
  unfold s_X6_hearLetters at hsp
  refine lv_iconst (v := 0) hx hb dX6_hearLetters_0 (by decide) ?_
  refine lv_istore_n (lv' := [(1, .int 0), (0, .ref (q 0))]) hx hb dX6_hearLetters_1 rfl hl (by decide) rfl (fun ls hl => ?_)
  exact K_2 13 _ _ ls gD S C (0) hP hD hS (lv_sub hl [1, 0] rfl) hsp
def s_X6_letLettersWork_b2 (g : zF) (fO : zF) (to : zF) (gR : zF) (C : Nat → Option Nat) (n : Nat) : Nat → (zF) → (Nat → Nat → zF) → (Int32) → Option ((zF) × (Nat → Nat → zF))
  | 0, _, _, _ => none
  | n2 + 1, gD_, S_, lo1 => (if (g 5) ≤ lo1 then some (gD_, S_) else (zat n g (lo1) (zl (lo1 + 1) fun (x4 : Int32) => (s_X6_letLettersWork_b2 g fO to gR C n n2 gD_ S_ (x4))) fun (j3 : Nat) => (zo (C j3) (zl (lo1 + 1) fun (x7 : Int32) => (s_X6_letLettersWork_b2 g fO to gR C n n2 gD_ S_ (x7))) fun (k6 : Nat) => if k6 < n ∧ ¬ k6 = j3 then zb6 (s_X4_take (S_ j3 0) (S_ j3 1) (S_ j3 2) (S_ j3 3) (S_ j3 4) gR gD_ (S_ k6 5) ((g 7))) fun (gM10 : zF) (gB11 : zF) (mk12 : zF) (mx13 : zF) (gI14 : zF) (gD15 : zF) => zl (lo1 + 1) fun (x17 : Int32) => zl (va_up S_ j3 (zs6 gM10 gB11 mk12 mx13 gI14 (S_ j3 5))) fun (S18 : Nat → Nat → zF) => (s_X6_letLettersWork_b2 g fO to gR C n n2 gD15 S18 (x17)) else none)))
def s_X6_letLettersWork (g : zF) (fO : zF) (to : zF) (gR : zF) (gD : zF) (S : Nat → Nat → zF) (C : Nat → Option Nat) (n : Nat) : Option ((zF) × (Nat → Nat → zF)) := (s_X6_letLettersWork_b2 g fO to gR C n 13 gD S (0))
abbrev rm_X6_letLettersWork : Room := { frames := 6, cells := 0, slots := 0, locals := 135 }
set_option maxHeartbeats 4000000 in
set_option maxRecDepth 100000 in
theorem c_X6_letLettersWork (l : Launch) (dD : va_G) (cI cA : ClassId) (q : Nat → Nat) (qq : Nat → Nat → Nat) (n : Nat) (hn12 : n ≤ 12) (g : zF) (fO : zF) (to : zF) (gR : zF) (gD : zF) (S : Nat → Nat → zF) (C : Nat → Option Nat) (r_gD : zF) (r_S : Nat → Nat → zF) (hsp : s_X6_letLettersWork g fO to gR gD S C n = some (r_gD, r_S)) : zMv l yX6_letLettersWork wsX6_letLettersWork rm_X6_letLettersWork dD cI cA [.ref (q 0)] ([zX q g, zP cA (q 3) (zfm qq n), zA cI (q 4) 144 fO, zA cI (q 5) 12 to, zR (q 2) gR, zD (q 1) gD] ++ zPool cI q qq n S C) ([zX q g, zP cA (q 3) (zfm qq n), zA cI (q 4) 144 fO, zA cI (q 5) 12 to, zR (q 2) gR, zD (q 1) r_gD] ++ zPool cI q qq n r_S C) := by
  refine zMv_of (cc := cX6_letLettersWork) (maxL := 3) (by decide) rfl (Nat.le_of_ble_eq_true rfl) ?_
  intro p e s m args below meth c A Q ls hx hb hml hown hts hK hA hP hD hl hret
  have hown : s.vm.findClass RX6 = some m.cls := hown
  have iX6 : ∀ w ∈ wsX60, w ∈ wsX6_letLettersWork := by decide +kernel
  have iX4 : ∀ w ∈ wsX40, w ∈ wsX6_letLettersWork := by decide +kernel
  have f53 := hts (.fieldLink RX6 53 "MeshField" "machineCount" "I") (by decide +kernel)
  have f172 : (Cond.fieldLinkNest RX6 172 "MeshField$Machine" "caught" "LMeshField$Letter;" "MeshField").before args s = true := hK.nw (by decide +kernel)
  have f75 := hts (.fieldLink RX6 75 "MeshField" "now" "I") (by decide +kernel)
  have hS : va_S A s.heap s.heap [] := va_S.rf
  have hl : lv_has ls 3 [(0, .ref (q 0))] := hl
  have K_2 : ∀ (nf : Nat) (H : Heap) (locs : List Loc) (ls : Array Slot) (gD_ : zF) (S_ : Nat → Nat → zF) (lo1 : Int32), va_P dD vwCl ([zX q g, zP cA (q 3) (zfm qq n), zA cI (q 4) 144 fO, zA cI (q 5) 12 to, zR (q 2) gR, zD (q 1) gD_] ++ zPool cI q qq n S_ C) H → va_D A ([zX q g, zP cA (q 3) (zfm qq n), zA cI (q 4) 144 fO, zA cI (q 5) 12 to, zR (q 2) gR, zD (q 1) gD_] ++ zPool cI q qq n S_ C) → va_S A s.heap H locs → lv_has ls 3 [(0, .ref (q 0)), (1, .int lo1)] → s_X6_letLettersWork_b2 g fO to gR C n nf gD_ S_ lo1 = some (r_gD, r_S) → W p l e rm_X6_letLettersWork s m args below meth c H locs 0 0 Q (F0 m 2 ls []) := by
    intro nf
    induction nf with
    | zero =>
      intro H locs ls gD_ S_ lo1 hP hD hS hl hsp
      exact absurd (show (none : Option ((zF) × (Nat → Nat → zF))) = some (r_gD, r_S) from hsp) (fun h => by cases h)
    | succ n2 ih2 =>
      intro H locs ls gD_ S_ lo1 hP hD hS hl hsp
      rw [s_X6_letLettersWork_b2] at hsp
      refine lv_iload_n hx hb dX6_letLettersWork_2 rfl (lv_at hl 1 rfl) ?_
      refine lv_aload_n hx hb dX6_letLettersWork_3 rfl (lv_at hl 0 rfl) ?_
      refine va_get (D := dD) (ci := 6) (v := .int (g 5)) (C := RX6) (T := TX6) (N := 10) hx hb hts iX6 hown hK.1 hP 0 rfl rfl 5 (by decide) f53 (fun _ h9 => h9) rfl dX6_letLettersWork_4 ?_
      refine lv_icmp_ge (tgt := 45) hx hb dX6_letLettersWork_7 (by decide) (fun c1 => ?_) (fun c1 => ?_)
      · have hsp := z_t c1 hsp
        obtain ⟨rfl, rfl⟩ := z_i2 hsp
        exact hret _ _ ls 45 dX6_letLettersWork_45 hP hD hS
      · have hsp := z_f c1 hsp
        refine lv_aload_n hx hb dX6_letLettersWork_10 rfl (lv_at hl 0 rfl) ?_
        refine lv_iload_n hx hb dX6_letLettersWork_11 rfl (lv_at hl 1 rfl) ?_
        rcases z_at (qq := qq) hn12 hsp with ⟨hc2, hsp⟩ | ⟨j3, hj3, ej3, hc2, hsp⟩
        · refine z_callVq ⟨hx, hb, hml, hown, hts⟩ hK (c_X6_machineAt l dD cI cA q g (zfm qq n) (lo1) _ hc2) (cwV 1 hts gX6_letLettersWork_X6_machineAt rfl rfl rfl (by decide +kernel) ⟨Nat.le_of_ble_eq_true rfl, Nat.le_of_ble_eq_true rfl⟩) (zJ.ofP (X := [zX q g, zP cA (q 3) (zfm qq n), zA cI (q 4) 144 fO, zA cI (q 5) 12 to, zR (q 2) gR, zD (q 1) gD_]) (wc := [zX q g, zP cA (q 3) (zfm qq n)]) (wc1 := [zX q g, zP cA (q 3) (zfm qq n)]) (wr := [zA cI (q 4) 144 fO, zA cI (q 5) 12 to, zR (q 2) gR, zD (q 1) gD_]) (w2 := [zX q g, zP cA (q 3) (zfm qq n), zA cI (q 4) 144 fO, zA cI (q 5) 12 to, zR (q 2) gR, zD (q 1) gD_]) hP hD hS hA [0, 1] [2, 3, 4, 5] [4, 5, 0, 1, 2, 3] rfl rfl rfl rfl rfl rfl rfl) hS 0 6 rfl rfl rfl rfl hl.1 rfl (Nat.le_of_ble_eq_true rfl) dX6_letLettersWork_12 ⟨Nat.zero_le _, Nat.zero_le _⟩ (fun H locs hP hD hS => ?_)
          refine z_topN ?_
          refine lv_astore_nN (lv' := [(2, .null), (0, .ref (q 0)), (1, .int lo1)]) hx hb dX6_letLettersWork_15 rfl hl (by decide) rfl (fun ls hl => ?_)
          refine lv_aload_nN hx hb dX6_letLettersWork_16 rfl (lv_at hl 0 rfl) ?_
          refine lv_ifnullN (tgt := 39) hx hb dX6_letLettersWork_17 (by decide) ?_
          obtain ⟨x4, ex4, hsp⟩ := z_lt hsp
          refine lv_iinc (v := x4) (lv' := [(1, .int x4), (2, .null), (0, .ref (q 0))]) hx hb dX6_letLettersWork_39 hl (k := 2) rfl (by rw [ex4]; rfl) (by decide) rfl (fun ls hl => ?_)
          refine lv_goto (tgt := 2) hx hb dX6_letLettersWork_42 (by decide) ?_
          exact ih2 _ _ ls gD_ S_ (x4) hP hD hS (lv_sub hl [2, 0] rfl) hsp
        · refine z_callVq ⟨hx, hb, hml, hown, hts⟩ hK (c_X6_machineAt l dD cI cA q g (zfm qq n) (lo1) _ hc2) (cwV 1 hts gX6_letLettersWork_X6_machineAt rfl rfl rfl (by decide +kernel) ⟨Nat.le_of_ble_eq_true rfl, Nat.le_of_ble_eq_true rfl⟩) (zJ.ofP (X := [zX q g, zP cA (q 3) (zfm qq n), zA cI (q 4) 144 fO, zA cI (q 5) 12 to, zR (q 2) gR, zD (q 1) gD_]) (wc := [zX q g, zP cA (q 3) (zfm qq n)]) (wc1 := [zX q g, zP cA (q 3) (zfm qq n)]) (wr := [zA cI (q 4) 144 fO, zA cI (q 5) 12 to, zR (q 2) gR, zD (q 1) gD_]) (w2 := [zX q g, zP cA (q 3) (zfm qq n), zA cI (q 4) 144 fO, zA cI (q 5) 12 to, zR (q 2) gR, zD (q 1) gD_]) hP hD hS hA [0, 1] [2, 3, 4, 5] [4, 5, 0, 1, 2, 3] rfl rfl rfl rfl rfl rfl rfl) hS 0 6 rfl rfl rfl rfl hl.1 rfl (Nat.le_of_ble_eq_true rfl) dX6_letLettersWork_12 ⟨Nat.zero_le _, Nat.zero_le _⟩ (fun H locs hP hD hS => ?_)
          refine z_topR ?_
          refine lv_astore_n (lv' := [(2, .ref (qq j3 0)), (0, .ref (q 0)), (1, .int lo1)]) hx hb dX6_letLettersWork_15 rfl hl (by decide) rfl (fun ls hl => ?_)
          refine lv_aload_n hx hb dX6_letLettersWork_16 rfl (lv_at hl 0 rfl) ?_
          refine lv_ifnull hx hb dX6_letLettersWork_17 ?_
          refine lv_aload_n hx hb dX6_letLettersWork_20 rfl (lv_at hl 0 rfl) ?_
          obtain ⟨hP, hD⟩ := z_foc (fx := [zX q g, zP cA (q 3) (zfm qq n), zA cI (q 4) 144 fO, zA cI (q 5) 12 to, zR (q 2) gR, zD (q 1) gD_]) hj3 hP hD
          have hP : va_P dD vwCl ([zX q g, zP cA (q 3) (zfm qq n), zA cI (q 4) 144 fO, zA cI (q 5) 12 to, zR (q 2) gR, zD (q 1) gD_, zM (qq j3) (q 2) (q 1) (zad qq (C j3)) (S_ j3 0), zB (qq j3) (S_ j3 1), zA cI (qq j3 2) 12 (S_ j3 2), zA cI (qq j3 3) 12 (S_ j3 3), zI (qq j3) (S_ j3 4), zL (qq j3 5) (S_ j3 5)] ++ zRest cI q qq n j3 S_ C) H := hP
          have hD : va_D A ([zX q g, zP cA (q 3) (zfm qq n), zA cI (q 4) 144 fO, zA cI (q 5) 12 to, zR (q 2) gR, zD (q 1) gD_, zM (qq j3) (q 2) (q 1) (zad qq (C j3)) (S_ j3 0), zB (qq j3) (S_ j3 1), zA cI (qq j3 2) 12 (S_ j3 2), zA cI (qq j3 3) 12 (S_ j3 3), zI (qq j3) (S_ j3 4), zL (qq j3 5) (S_ j3 5)] ++ zRest cI q qq n j3 S_ C) := hD
          refine va_getN (D := dD) (ci := 4) (v := va_rf (zad qq (C j3))) (C := RX4) (T := TX4) (N := 18) hx hb hts iX4 hown hK.1 hP 6 rfl rfl 5 (by decide) f172 (fun _ h9 => h9) rfl dX6_letLettersWork_21 ?_
          rcases z_op hsp with ⟨hc5, hsp⟩ | ⟨k6, hc5, hsp⟩
          · refine z_nopt hc5 ?_
            refine lv_ifnullN (tgt := 39) hx hb dX6_letLettersWork_24 (by decide) ?_
            obtain ⟨x7, ex7, hsp⟩ := z_lt hsp
            refine lv_iinc (v := x7) (lv' := [(1, .int x7), (2, .ref (qq j3 0)), (0, .ref (q 0))]) hx hb dX6_letLettersWork_39 hl (k := 2) rfl (by rw [ex7]; rfl) (by decide) rfl (fun ls hl => ?_)
            refine lv_goto (tgt := 2) hx hb dX6_letLettersWork_42 (by decide) ?_
            obtain ⟨hP, hD⟩ := z_unf0 [zX q g, zP cA (q 3) (zfm qq n), zA cI (q 4) 144 fO, zA cI (q 5) 12 to, zR (q 2) gR, zD (q 1) gD_] hj3 hP hD
            have hP : va_P dD vwCl ([zX q g, zP cA (q 3) (zfm qq n), zA cI (q 4) 144 fO, zA cI (q 5) 12 to, zR (q 2) gR, zD (q 1) gD_] ++ zPool cI q qq n S_ C) H := hP
            have hD : va_D A ([zX q g, zP cA (q 3) (zfm qq n), zA cI (q 4) 144 fO, zA cI (q 5) 12 to, zR (q 2) gR, zD (q 1) gD_] ++ zPool cI q qq n S_ C) := hD
            exact ih2 _ _ ls gD_ S_ (x7) hP hD hS (lv_sub hl [2, 0] rfl) hsp
          · refine z_ropt hc5 ?_
            refine lv_ifnull hx hb dX6_letLettersWork_24 ?_
            refine lv_aload_n hx hb dX6_letLettersWork_27 rfl (lv_at hl 0 rfl) ?_
            refine lv_aload_n hx hb dX6_letLettersWork_28 rfl (lv_at hl 0 rfl) ?_
            refine va_getN (D := dD) (ci := 4) (v := va_rf (zad qq (C j3))) (C := RX4) (T := TX4) (N := 18) hx hb hts iX4 hown hK.1 hP 6 rfl rfl 5 (by decide) f172 (fun _ h9 => h9) rfl dX6_letLettersWork_29 ?_
            refine z_ropt hc5 ?_
            refine lv_aload_n hx hb dX6_letLettersWork_32 rfl (lv_at hl 1 rfl) ?_
            refine va_get (D := dD) (ci := 6) (v := .int (g 7)) (C := RX6) (T := TX6) (N := 10) hx hb hts iX6 hown hK.1 hP 0 rfl rfl 7 (by decide) f75 (fun _ h9 => h9) rfl dX6_letLettersWork_33 ?_
            obtain ⟨h8, h9, hsp⟩ := z_g2 hsp
            obtain ⟨hP, hD⟩ := z_foc2 [zX q g, zP cA (q 3) (zfm qq n), zA cI (q 4) 144 fO, zA cI (q 5) 12 to, zR (q 2) gR, zD (q 1) gD_, zM (qq j3) (q 2) (q 1) (zad qq (C j3)) (S_ j3 0), zB (qq j3) (S_ j3 1), zA cI (qq j3 2) 12 (S_ j3 2), zA cI (qq j3 3) 12 (S_ j3 3), zI (qq j3) (S_ j3 4), zL (qq j3 5) (S_ j3 5)] h8 h9 hP hD
            have hP : va_P dD vwCl ([zX q g, zP cA (q 3) (zfm qq n), zA cI (q 4) 144 fO, zA cI (q 5) 12 to, zR (q 2) gR, zD (q 1) gD_, zM (qq j3) (q 2) (q 1) (zad qq (C j3)) (S_ j3 0), zB (qq j3) (S_ j3 1), zA cI (qq j3 2) 12 (S_ j3 2), zA cI (qq j3 3) 12 (S_ j3 3), zI (qq j3) (S_ j3 4), zL (qq j3 5) (S_ j3 5), zL (qq k6 5) (S_ k6 5)] ++ zRest2 cI q qq n j3 k6 S_ C) H := hP
            have hD : va_D A ([zX q g, zP cA (q 3) (zfm qq n), zA cI (q 4) 144 fO, zA cI (q 5) 12 to, zR (q 2) gR, zD (q 1) gD_, zM (qq j3) (q 2) (q 1) (zad qq (C j3)) (S_ j3 0), zB (qq j3) (S_ j3 1), zA cI (qq j3 2) 12 (S_ j3 2), zA cI (qq j3 3) 12 (S_ j3 3), zI (qq j3) (S_ j3 4), zL (qq j3 5) (S_ j3 5), zL (qq k6 5) (S_ k6 5)] ++ zRest2 cI q qq n j3 k6 S_ C) := hD
            obtain ⟨gM10, gB11, mk12, mx13, gI14, gD15, hc16, hsp⟩ := z_b6 hsp
            refine z_callVv ⟨hx, hb, hml, hown, hts⟩ hK (c_X4_take l dD cI cA (qq j3) (q 2) (q 1) (zad qq (C j3)) (qq k6 5) (S_ j3 0) (S_ j3 1) (S_ j3 2) (S_ j3 3) (S_ j3 4) gR gD_ (S_ k6 5) ((g 7)) gM10 gB11 mk12 mx13 gI14 gD15 hc16) (cwV 2 hts gX6_letLettersWork_X4_take rfl rfl rfl (by decide +kernel) ⟨Nat.le_of_ble_eq_true rfl, Nat.le_of_ble_eq_true rfl⟩) (zJ.ofP (X := [zX q g, zP cA (q 3) (zfm qq n), zA cI (q 4) 144 fO, zA cI (q 5) 12 to, zR (q 2) gR, zD (q 1) gD_, zM (qq j3) (q 2) (q 1) (zad qq (C j3)) (S_ j3 0), zB (qq j3) (S_ j3 1), zA cI (qq j3 2) 12 (S_ j3 2), zA cI (qq j3 3) 12 (S_ j3 3), zI (qq j3) (S_ j3 4), zL (qq j3 5) (S_ j3 5), zL (qq k6 5) (S_ k6 5)]) (wc := [zM (qq j3) (q 2) (q 1) (zad qq (C j3)) (S_ j3 0), zB (qq j3) (S_ j3 1), zA cI (qq j3 2) 12 (S_ j3 2), zA cI (qq j3 3) 12 (S_ j3 3), zI (qq j3) (S_ j3 4), zR (q 2) gR, zD (q 1) gD_, zL (qq k6 5) (S_ k6 5)]) (wc1 := [zM (qq j3) (q 2) (q 1) (zad qq (C j3)) gM10, zB (qq j3) gB11, zA cI (qq j3 2) 12 mk12, zA cI (qq j3 3) 12 mx13, zI (qq j3) gI14, zR (q 2) gR, zD (q 1) gD15, zL (qq k6 5) (S_ k6 5)]) (wr := [zX q g, zP cA (q 3) (zfm qq n), zA cI (q 4) 144 fO, zA cI (q 5) 12 to, zL (qq j3 5) (S_ j3 5)]) (w2 := [zX q g, zP cA (q 3) (zfm qq n), zA cI (q 4) 144 fO, zA cI (q 5) 12 to, zR (q 2) gR, zD (q 1) gD15, zM (qq j3) (q 2) (q 1) (zad qq (C j3)) gM10, zB (qq j3) gB11, zA cI (qq j3 2) 12 mk12, zA cI (qq j3 3) 12 mx13, zI (qq j3) gI14, zL (qq j3 5) (S_ j3 5), zL (qq k6 5) (S_ k6 5)]) hP hD hS hA [6, 7, 8, 9, 10, 4, 5, 12] [0, 1, 2, 3, 11] [0, 1, 2, 3, 10, 11, 5, 6, 7, 8, 9, 4, 12] rfl rfl rfl rfl rfl rfl rfl) hS 0 4 rfl rfl rfl rfl hl.1 rfl (Nat.le_of_ble_eq_true rfl) dX6_letLettersWork_36 ⟨Nat.zero_le _, Nat.zero_le _⟩ (fun H locs hP hD hS => ?_)
            obtain ⟨hP, hD⟩ := z_unf2 [zX q g, zP cA (q 3) (zfm qq n), zA cI (q 4) 144 fO, zA cI (q 5) 12 to, zR (q 2) gR, zD (q 1) gD15, zM (qq j3) (q 2) (q 1) (zad qq (C j3)) gM10, zB (qq j3) gB11, zA cI (qq j3 2) 12 mk12, zA cI (qq j3 3) 12 mx13, zI (qq j3) gI14, zL (qq j3 5) (S_ j3 5)] h8 h9 hP hD
            have hP : va_P dD vwCl ([zX q g, zP cA (q 3) (zfm qq n), zA cI (q 4) 144 fO, zA cI (q 5) 12 to, zR (q 2) gR, zD (q 1) gD15, zM (qq j3) (q 2) (q 1) (zad qq (C j3)) gM10, zB (qq j3) gB11, zA cI (qq j3 2) 12 mk12, zA cI (qq j3 3) 12 mx13, zI (qq j3) gI14, zL (qq j3 5) (S_ j3 5)] ++ zRest cI q qq n j3 S_ C) H := hP
            have hD : va_D A ([zX q g, zP cA (q 3) (zfm qq n), zA cI (q 4) 144 fO, zA cI (q 5) 12 to, zR (q 2) gR, zD (q 1) gD15, zM (qq j3) (q 2) (q 1) (zad qq (C j3)) gM10, zB (qq j3) gB11, zA cI (qq j3 2) 12 mk12, zA cI (qq j3 3) 12 mx13, zI (qq j3) gI14, zL (qq j3 5) (S_ j3 5)] ++ zRest cI q qq n j3 S_ C) := hD
            obtain ⟨x17, ex17, hsp⟩ := z_lt hsp
            refine lv_iinc (v := x17) (lv' := [(1, .int x17), (2, .ref (qq j3 0)), (0, .ref (q 0))]) hx hb dX6_letLettersWork_39 hl (k := 2) rfl (by rw [ex17]; rfl) (by decide) rfl (fun ls hl => ?_)
            refine lv_goto (tgt := 2) hx hb dX6_letLettersWork_42 (by decide) ?_
            obtain ⟨S18, eS18, hsp⟩ := z_lt hsp
            obtain ⟨hP, hD⟩ := z_unfS [zX q g, zP cA (q 3) (zfm qq n), zA cI (q 4) 144 fO, zA cI (q 5) 12 to, zR (q 2) gR, zD (q 1) gD15] (gM := gM10) (gB := gB11) (mk := mk12) (mx := mx13) (gI := gI14) (gL := (S_ j3 5)) hj3 hP hD
            rw [← eS18] at hP hD
            have hP : va_P dD vwCl ([zX q g, zP cA (q 3) (zfm qq n), zA cI (q 4) 144 fO, zA cI (q 5) 12 to, zR (q 2) gR, zD (q 1) gD15] ++ zPool cI q qq n S18 C) H := hP
            have hD : va_D A ([zX q g, zP cA (q 3) (zfm qq n), zA cI (q 4) 144 fO, zA cI (q 5) 12 to, zR (q 2) gR, zD (q 1) gD15] ++ zPool cI q qq n S18 C) := hD
            exact ih2 _ _ ls gD15 S18 (x17) hP hD hS (lv_sub hl [2, 0] rfl) hsp
  unfold s_X6_letLettersWork at hsp
  refine lv_iconst (v := 0) hx hb dX6_letLettersWork_0 (by decide) ?_
  refine lv_istore_n (lv' := [(1, .int 0), (0, .ref (q 0))]) hx hb dX6_letLettersWork_1 rfl hl (by decide) rfl (fun ls hl => ?_)
  exact K_2 13 _ _ ls gD S (0) hP hD hS (lv_sub hl [1, 0] rfl) hsp
def s_X6_endTick_b2 (g : zF) (fO : zF) (to : zF) (gR : zF) (C : Nat → Option Nat) (n : Nat) : Nat → (zF) → (Nat → Nat → zF) → (Int32) → Option ((zF) × (Nat → Nat → zF))
  | 0, _, _, _ => none
  | n2 + 1, gD_, S_, lo1 => (if (g 5) ≤ lo1 then some (gD_, S_) else (zat n g (lo1) (zl (lo1 + 1) fun (x4 : Int32) => (s_X6_endTick_b2 g fO to gR C n n2 gD_ S_ (x4))) fun (j3 : Nat) => zb3 (s_X4_end (S_ j3 0) (S_ j3 1) (S_ j3 4) gR gD_ ((g 7))) fun (gM5 : zF) (gI6 : zF) (gD7 : zF) => zl (lo1 + 1) fun (x9 : Int32) => zl (va_up S_ j3 (zs6 gM5 (S_ j3 1) (S_ j3 2) (S_ j3 3) gI6 (S_ j3 5))) fun (S10 : Nat → Nat → zF) => (s_X6_endTick_b2 g fO to gR C n n2 gD7 S10 (x9))))
def s_X6_endTick (g : zF) (fO : zF) (to : zF) (gR : zF) (gD : zF) (S : Nat → Nat → zF) (C : Nat → Option Nat) (n : Nat) : Option ((zF) × (Nat → Nat → zF)) := (s_X6_endTick_b2 g fO to gR C n 13 gD S (0))
abbrev rm_X6_endTick : Room := { frames := 3, cells := 0, slots := 0, locals := 66 }
set_option maxHeartbeats 4000000 in
set_option maxRecDepth 100000 in
theorem c_X6_endTick (l : Launch) (dD : va_G) (cI cA : ClassId) (q : Nat → Nat) (qq : Nat → Nat → Nat) (n : Nat) (hn12 : n ≤ 12) (g : zF) (fO : zF) (to : zF) (gR : zF) (gD : zF) (S : Nat → Nat → zF) (C : Nat → Option Nat) (r_gD : zF) (r_S : Nat → Nat → zF) (hsp : s_X6_endTick g fO to gR gD S C n = some (r_gD, r_S)) : zMv l yX6_endTick wsX6_endTick rm_X6_endTick dD cI cA [.ref (q 0)] ([zX q g, zP cA (q 3) (zfm qq n), zA cI (q 4) 144 fO, zA cI (q 5) 12 to, zR (q 2) gR, zD (q 1) gD] ++ zPool cI q qq n S C) ([zX q g, zP cA (q 3) (zfm qq n), zA cI (q 4) 144 fO, zA cI (q 5) 12 to, zR (q 2) gR, zD (q 1) r_gD] ++ zPool cI q qq n r_S C) := by
  refine zMv_of (cc := cX6_endTick) (maxL := 3) (by decide) rfl (Nat.le_of_ble_eq_true rfl) ?_
  intro p e s m args below meth c A Q ls hx hb hml hown hts hK hA hP hD hl hret
  have hown : s.vm.findClass RX6 = some m.cls := hown
  have iX6 : ∀ w ∈ wsX60, w ∈ wsX6_endTick := by decide +kernel
  have f53 := hts (.fieldLink RX6 53 "MeshField" "machineCount" "I") (by decide +kernel)
  have f75 := hts (.fieldLink RX6 75 "MeshField" "now" "I") (by decide +kernel)
  have hS : va_S A s.heap s.heap [] := va_S.rf
  have hl : lv_has ls 3 [(0, .ref (q 0))] := hl
  have K_2 : ∀ (nf : Nat) (H : Heap) (locs : List Loc) (ls : Array Slot) (gD_ : zF) (S_ : Nat → Nat → zF) (lo1 : Int32), va_P dD vwCl ([zX q g, zP cA (q 3) (zfm qq n), zA cI (q 4) 144 fO, zA cI (q 5) 12 to, zR (q 2) gR, zD (q 1) gD_] ++ zPool cI q qq n S_ C) H → va_D A ([zX q g, zP cA (q 3) (zfm qq n), zA cI (q 4) 144 fO, zA cI (q 5) 12 to, zR (q 2) gR, zD (q 1) gD_] ++ zPool cI q qq n S_ C) → va_S A s.heap H locs → lv_has ls 3 [(0, .ref (q 0)), (1, .int lo1)] → s_X6_endTick_b2 g fO to gR C n nf gD_ S_ lo1 = some (r_gD, r_S) → W p l e rm_X6_endTick s m args below meth c H locs 0 0 Q (F0 m 2 ls []) := by
    intro nf
    induction nf with
    | zero =>
      intro H locs ls gD_ S_ lo1 hP hD hS hl hsp
      exact absurd (show (none : Option ((zF) × (Nat → Nat → zF))) = some (r_gD, r_S) from hsp) (fun h => by cases h)
    | succ n2 ih2 =>
      intro H locs ls gD_ S_ lo1 hP hD hS hl hsp
      rw [s_X6_endTick_b2] at hsp
      refine lv_iload_n hx hb dX6_endTick_2 rfl (lv_at hl 1 rfl) ?_
      refine lv_aload_n hx hb dX6_endTick_3 rfl (lv_at hl 0 rfl) ?_
      refine va_get (D := dD) (ci := 6) (v := .int (g 5)) (C := RX6) (T := TX6) (N := 10) hx hb hts iX6 hown hK.1 hP 0 rfl rfl 5 (by decide) f53 (fun _ h9 => h9) rfl dX6_endTick_4 ?_
      refine lv_icmp_ge (tgt := 34) hx hb dX6_endTick_7 (by decide) (fun c1 => ?_) (fun c1 => ?_)
      · have hsp := z_t c1 hsp
        obtain ⟨rfl, rfl⟩ := z_i2 hsp
        exact hret _ _ ls 34 dX6_endTick_34 hP hD hS
      · have hsp := z_f c1 hsp
        refine lv_aload_n hx hb dX6_endTick_10 rfl (lv_at hl 0 rfl) ?_
        refine lv_iload_n hx hb dX6_endTick_11 rfl (lv_at hl 1 rfl) ?_
        rcases z_at (qq := qq) hn12 hsp with ⟨hc2, hsp⟩ | ⟨j3, hj3, ej3, hc2, hsp⟩
        · refine z_callVq ⟨hx, hb, hml, hown, hts⟩ hK (c_X6_machineAt l dD cI cA q g (zfm qq n) (lo1) _ hc2) (cwV 1 hts gX6_endTick_X6_machineAt rfl rfl rfl (by decide +kernel) ⟨Nat.le_of_ble_eq_true rfl, Nat.le_of_ble_eq_true rfl⟩) (zJ.ofP (X := [zX q g, zP cA (q 3) (zfm qq n), zA cI (q 4) 144 fO, zA cI (q 5) 12 to, zR (q 2) gR, zD (q 1) gD_]) (wc := [zX q g, zP cA (q 3) (zfm qq n)]) (wc1 := [zX q g, zP cA (q 3) (zfm qq n)]) (wr := [zA cI (q 4) 144 fO, zA cI (q 5) 12 to, zR (q 2) gR, zD (q 1) gD_]) (w2 := [zX q g, zP cA (q 3) (zfm qq n), zA cI (q 4) 144 fO, zA cI (q 5) 12 to, zR (q 2) gR, zD (q 1) gD_]) hP hD hS hA [0, 1] [2, 3, 4, 5] [4, 5, 0, 1, 2, 3] rfl rfl rfl rfl rfl rfl rfl) hS 0 6 rfl rfl rfl rfl hl.1 rfl (Nat.le_of_ble_eq_true rfl) dX6_endTick_12 ⟨Nat.zero_le _, Nat.zero_le _⟩ (fun H locs hP hD hS => ?_)
          refine z_topN ?_
          refine lv_astore_nN (lv' := [(2, .null), (0, .ref (q 0)), (1, .int lo1)]) hx hb dX6_endTick_15 rfl hl (by decide) rfl (fun ls hl => ?_)
          refine lv_aload_nN hx hb dX6_endTick_16 rfl (lv_at hl 0 rfl) ?_
          refine lv_ifnullN (tgt := 28) hx hb dX6_endTick_17 (by decide) ?_
          obtain ⟨x4, ex4, hsp⟩ := z_lt hsp
          refine lv_iinc (v := x4) (lv' := [(1, .int x4), (2, .null), (0, .ref (q 0))]) hx hb dX6_endTick_28 hl (k := 2) rfl (by rw [ex4]; rfl) (by decide) rfl (fun ls hl => ?_)
          refine lv_goto (tgt := 2) hx hb dX6_endTick_31 (by decide) ?_
          exact ih2 _ _ ls gD_ S_ (x4) hP hD hS (lv_sub hl [2, 0] rfl) hsp
        · refine z_callVq ⟨hx, hb, hml, hown, hts⟩ hK (c_X6_machineAt l dD cI cA q g (zfm qq n) (lo1) _ hc2) (cwV 1 hts gX6_endTick_X6_machineAt rfl rfl rfl (by decide +kernel) ⟨Nat.le_of_ble_eq_true rfl, Nat.le_of_ble_eq_true rfl⟩) (zJ.ofP (X := [zX q g, zP cA (q 3) (zfm qq n), zA cI (q 4) 144 fO, zA cI (q 5) 12 to, zR (q 2) gR, zD (q 1) gD_]) (wc := [zX q g, zP cA (q 3) (zfm qq n)]) (wc1 := [zX q g, zP cA (q 3) (zfm qq n)]) (wr := [zA cI (q 4) 144 fO, zA cI (q 5) 12 to, zR (q 2) gR, zD (q 1) gD_]) (w2 := [zX q g, zP cA (q 3) (zfm qq n), zA cI (q 4) 144 fO, zA cI (q 5) 12 to, zR (q 2) gR, zD (q 1) gD_]) hP hD hS hA [0, 1] [2, 3, 4, 5] [4, 5, 0, 1, 2, 3] rfl rfl rfl rfl rfl rfl rfl) hS 0 6 rfl rfl rfl rfl hl.1 rfl (Nat.le_of_ble_eq_true rfl) dX6_endTick_12 ⟨Nat.zero_le _, Nat.zero_le _⟩ (fun H locs hP hD hS => ?_)
          refine z_topR ?_
          refine lv_astore_n (lv' := [(2, .ref (qq j3 0)), (0, .ref (q 0)), (1, .int lo1)]) hx hb dX6_endTick_15 rfl hl (by decide) rfl (fun ls hl => ?_)
          refine lv_aload_n hx hb dX6_endTick_16 rfl (lv_at hl 0 rfl) ?_
          refine lv_ifnull hx hb dX6_endTick_17 ?_
          refine lv_aload_n hx hb dX6_endTick_20 rfl (lv_at hl 0 rfl) ?_
          refine lv_aload_n hx hb dX6_endTick_21 rfl (lv_at hl 1 rfl) ?_
          refine va_get (D := dD) (ci := 6) (v := .int (g 7)) (C := RX6) (T := TX6) (N := 10) hx hb hts iX6 hown hK.1 hP 0 rfl rfl 7 (by decide) f75 (fun _ h9 => h9) rfl dX6_endTick_22 ?_
          obtain ⟨hP, hD⟩ := z_foc (fx := [zX q g, zP cA (q 3) (zfm qq n), zA cI (q 4) 144 fO, zA cI (q 5) 12 to, zR (q 2) gR, zD (q 1) gD_]) hj3 hP hD
          have hP : va_P dD vwCl ([zX q g, zP cA (q 3) (zfm qq n), zA cI (q 4) 144 fO, zA cI (q 5) 12 to, zR (q 2) gR, zD (q 1) gD_, zM (qq j3) (q 2) (q 1) (zad qq (C j3)) (S_ j3 0), zB (qq j3) (S_ j3 1), zA cI (qq j3 2) 12 (S_ j3 2), zA cI (qq j3 3) 12 (S_ j3 3), zI (qq j3) (S_ j3 4), zL (qq j3 5) (S_ j3 5)] ++ zRest cI q qq n j3 S_ C) H := hP
          have hD : va_D A ([zX q g, zP cA (q 3) (zfm qq n), zA cI (q 4) 144 fO, zA cI (q 5) 12 to, zR (q 2) gR, zD (q 1) gD_, zM (qq j3) (q 2) (q 1) (zad qq (C j3)) (S_ j3 0), zB (qq j3) (S_ j3 1), zA cI (qq j3 2) 12 (S_ j3 2), zA cI (qq j3 3) 12 (S_ j3 3), zI (qq j3) (S_ j3 4), zL (qq j3 5) (S_ j3 5)] ++ zRest cI q qq n j3 S_ C) := hD
          obtain ⟨gM5, gI6, gD7, hc8, hsp⟩ := z_b3 hsp
          refine z_callVv ⟨hx, hb, hml, hown, hts⟩ hK (c_X4_end l dD cI cA (qq j3) (q 2) (q 1) (zad qq (C j3)) (S_ j3 0) (S_ j3 1) (S_ j3 4) gR gD_ ((g 7)) gM5 gI6 gD7 hc8) (cwV 1 hts gX6_endTick_X4_end rfl rfl rfl (by decide +kernel) ⟨Nat.le_of_ble_eq_true rfl, Nat.le_of_ble_eq_true rfl⟩) (zJ.ofP (X := [zX q g, zP cA (q 3) (zfm qq n), zA cI (q 4) 144 fO, zA cI (q 5) 12 to, zR (q 2) gR, zD (q 1) gD_, zM (qq j3) (q 2) (q 1) (zad qq (C j3)) (S_ j3 0), zB (qq j3) (S_ j3 1), zA cI (qq j3 2) 12 (S_ j3 2), zA cI (qq j3 3) 12 (S_ j3 3), zI (qq j3) (S_ j3 4), zL (qq j3 5) (S_ j3 5)]) (wc := [zM (qq j3) (q 2) (q 1) (zad qq (C j3)) (S_ j3 0), zB (qq j3) (S_ j3 1), zI (qq j3) (S_ j3 4), zR (q 2) gR, zD (q 1) gD_]) (wc1 := [zM (qq j3) (q 2) (q 1) (zad qq (C j3)) gM5, zB (qq j3) (S_ j3 1), zI (qq j3) gI6, zR (q 2) gR, zD (q 1) gD7]) (wr := [zX q g, zP cA (q 3) (zfm qq n), zA cI (q 4) 144 fO, zA cI (q 5) 12 to, zA cI (qq j3 2) 12 (S_ j3 2), zA cI (qq j3 3) 12 (S_ j3 3), zL (qq j3 5) (S_ j3 5)]) (w2 := [zX q g, zP cA (q 3) (zfm qq n), zA cI (q 4) 144 fO, zA cI (q 5) 12 to, zR (q 2) gR, zD (q 1) gD7, zM (qq j3) (q 2) (q 1) (zad qq (C j3)) gM5, zB (qq j3) (S_ j3 1), zA cI (qq j3 2) 12 (S_ j3 2), zA cI (qq j3 3) 12 (S_ j3 3), zI (qq j3) gI6, zL (qq j3 5) (S_ j3 5)]) hP hD hS hA [6, 7, 10, 4, 5] [0, 1, 2, 3, 8, 9, 11] [0, 1, 2, 3, 10, 11, 7, 8, 4, 5, 9, 6] rfl rfl rfl rfl rfl rfl rfl) hS 0 4 rfl rfl rfl rfl hl.1 rfl (Nat.le_of_ble_eq_true rfl) dX6_endTick_25 ⟨Nat.zero_le _, Nat.zero_le _⟩ (fun H locs hP hD hS => ?_)
          obtain ⟨x9, ex9, hsp⟩ := z_lt hsp
          refine lv_iinc (v := x9) (lv' := [(1, .int x9), (2, .ref (qq j3 0)), (0, .ref (q 0))]) hx hb dX6_endTick_28 hl (k := 2) rfl (by rw [ex9]; rfl) (by decide) rfl (fun ls hl => ?_)
          refine lv_goto (tgt := 2) hx hb dX6_endTick_31 (by decide) ?_
          obtain ⟨S10, eS10, hsp⟩ := z_lt hsp
          obtain ⟨hP, hD⟩ := z_unfS [zX q g, zP cA (q 3) (zfm qq n), zA cI (q 4) 144 fO, zA cI (q 5) 12 to, zR (q 2) gR, zD (q 1) gD7] (gM := gM5) (gB := (S_ j3 1)) (mk := (S_ j3 2)) (mx := (S_ j3 3)) (gI := gI6) (gL := (S_ j3 5)) hj3 hP hD
          rw [← eS10] at hP hD
          have hP : va_P dD vwCl ([zX q g, zP cA (q 3) (zfm qq n), zA cI (q 4) 144 fO, zA cI (q 5) 12 to, zR (q 2) gR, zD (q 1) gD7] ++ zPool cI q qq n S10 C) H := hP
          have hD : va_D A ([zX q g, zP cA (q 3) (zfm qq n), zA cI (q 4) 144 fO, zA cI (q 5) 12 to, zR (q 2) gR, zD (q 1) gD7] ++ zPool cI q qq n S10 C) := hD
          exact ih2 _ _ ls gD7 S10 (x9) hP hD hS (lv_sub hl [2, 0] rfl) hsp
  unfold s_X6_endTick at hsp
  refine lv_iconst (v := 0) hx hb dX6_endTick_0 (by decide) ?_
  refine lv_istore_n (lv' := [(1, .int 0), (0, .ref (q 0))]) hx hb dX6_endTick_1 rfl hl (by decide) rfl (fun ls hl => ?_)
  exact K_2 13 _ _ ls gD S (0) hP hD hS (lv_sub hl [1, 0] rfl) hsp
def s_X6_noteAllWhole_b18 (fO : zF) (to : zF) (gR : zF) (gD : zF) (S : Nat → Nat → zF) (C : Nat → Option Nat) (n : Nat) : Nat → (zF) → (Int32) → Option (zF)
  | 0, _, _ => none
  | n18 + 1, g_, lo1 => (if (g_ 5) ≤ lo1 then zl (va_up g_ 9 ((g_ 7))) fun (g4 : zF) => some (g4) else (zat n g_ (lo1) (some (g_)) fun (j6 : Nat) => zb1 (s_X4_isWholeOf (S j6 0) (S j6 1) ((g_ 8))) fun (v7 : Int32) => (if v7 = 0 then some (g_) else zl (lo1 + 1) fun (x10 : Int32) => (s_X6_noteAllWhole_b18 fO to gR gD S C n n18 g_ (x10)))))
def s_X6_noteAllWhole (g : zF) (fO : zF) (to : zF) (gR : zF) (gD : zF) (S : Nat → Nat → zF) (C : Nat → Option Nat) (n : Nat) : Option (zF) := (if (g 9) = (-1) then (if (g 8) = 0 then some (g) else (s_X6_noteAllWhole_b18 fO to gR gD S C n 13 g (0))) else some (g))
abbrev rm_X6_noteAllWhole : Room := { frames := 2, cells := 0, slots := 0, locals := 41 }
set_option maxHeartbeats 4000000 in
set_option maxRecDepth 100000 in
theorem c_X6_noteAllWhole (l : Launch) (dD : va_G) (cI cA : ClassId) (q : Nat → Nat) (qq : Nat → Nat → Nat) (n : Nat) (hn12 : n ≤ 12) (g : zF) (fO : zF) (to : zF) (gR : zF) (gD : zF) (S : Nat → Nat → zF) (C : Nat → Option Nat) (r_g : zF) (hsp : s_X6_noteAllWhole g fO to gR gD S C n = some (r_g)) : zMv l yX6_noteAllWhole wsX6_noteAllWhole rm_X6_noteAllWhole dD cI cA [.ref (q 0)] ([zX q g, zP cA (q 3) (zfm qq n), zA cI (q 4) 144 fO, zA cI (q 5) 12 to, zR (q 2) gR, zD (q 1) gD] ++ zPool cI q qq n S C) ([zX q r_g, zP cA (q 3) (zfm qq n), zA cI (q 4) 144 fO, zA cI (q 5) 12 to, zR (q 2) gR, zD (q 1) gD] ++ zPool cI q qq n S C) := by
  refine zMv_of (cc := cX6_noteAllWhole) (maxL := 3) (by decide) rfl (Nat.le_of_ble_eq_true rfl) ?_
  intro p e s m args below meth c A Q ls hx hb hml hown hts hK hA hP hD hl hret
  have hown : s.vm.findClass RX6 = some m.cls := hown
  have iX6 : ∀ w ∈ wsX60, w ∈ wsX6_noteAllWhole := by decide +kernel
  have f42 := hts (.fieldLink RX6 42 "MeshField" "allWholeAt" "I") (by decide +kernel)
  have f106 := hts (.fieldLink RX6 106 "MeshField" "greatestNumber" "I") (by decide +kernel)
  have f53 := hts (.fieldLink RX6 53 "MeshField" "machineCount" "I") (by decide +kernel)
  have f75 := hts (.fieldLink RX6 75 "MeshField" "now" "I") (by decide +kernel)
  have hS : va_S A s.heap s.heap [] := va_S.rf
  have hl : lv_has ls 3 [(0, .ref (q 0))] := hl
  have K_18 : ∀ (nf : Nat) (H : Heap) (locs : List Loc) (ls : Array Slot) (g_ : zF) (lo1 : Int32), va_P dD vwCl ([zX q g_, zP cA (q 3) (zfm qq n), zA cI (q 4) 144 fO, zA cI (q 5) 12 to, zR (q 2) gR, zD (q 1) gD] ++ zPool cI q qq n S C) H → va_D A ([zX q g_, zP cA (q 3) (zfm qq n), zA cI (q 4) 144 fO, zA cI (q 5) 12 to, zR (q 2) gR, zD (q 1) gD] ++ zPool cI q qq n S C) → va_S A s.heap H locs → lv_has ls 3 [(0, .ref (q 0)), (1, .int lo1)] → s_X6_noteAllWhole_b18 fO to gR gD S C n nf g_ lo1 = some (r_g) → W p l e rm_X6_noteAllWhole s m args below meth c H locs 0 0 Q (F0 m 18 ls []) := by
    intro nf
    induction nf with
    | zero =>
      intro H locs ls g_ lo1 hP hD hS hl hsp
      exact absurd (show (none : Option (zF)) = some (r_g) from hsp) (fun h => by cases h)
    | succ n18 ih18 =>
      intro H locs ls g_ lo1 hP hD hS hl hsp
      rw [s_X6_noteAllWhole_b18] at hsp
      refine lv_iload_n hx hb dX6_noteAllWhole_18 rfl (lv_at hl 1 rfl) ?_
      refine lv_aload_n hx hb dX6_noteAllWhole_19 rfl (lv_at hl 0 rfl) ?_
      refine va_get (D := dD) (ci := 6) (v := .int (g_ 5)) (C := RX6) (T := TX6) (N := 10) hx hb hts iX6 hown hK.1 hP 0 rfl rfl 5 (by decide) f53 (fun _ h9 => h9) rfl dX6_noteAllWhole_20 ?_
      refine lv_icmp_ge (tgt := 54) hx hb dX6_noteAllWhole_23 (by decide) (fun c3 => ?_) (fun c3 => ?_)
      · have hsp := z_t c3 hsp
        refine lv_aload_n hx hb dX6_noteAllWhole_54 rfl (lv_at hl 0 rfl) ?_
        refine lv_aload_n hx hb dX6_noteAllWhole_55 rfl (lv_at hl 0 rfl) ?_
        refine va_get (D := dD) (ci := 6) (v := .int (g_ 7)) (C := RX6) (T := TX6) (N := 10) hx hb hts iX6 hown hK.1 hP 0 rfl rfl 7 (by decide) f75 (fun _ h9 => h9) rfl dX6_noteAllWhole_56 ?_
        refine va_put (D := dD) (ci := 6) (v := .int (g_ 7)) (ty := .int) (C := RX6) (T := TX6) (N := 10) hx hb hts iX6 tyX6 tyX6_ok nmX6 hown hK.1 hP hD hS 0 rfl rfl 9 (by decide) f42 (fun _ h9 => h9) rfl (by decide +kernel) rfl rfl (Nat.le_of_ble_eq_true rfl) dX6_noteAllWhole_59 (fun H locs hP hD hS => ?_)
        obtain ⟨g4, eg4, hsp⟩ := z_lt hsp
        have hP : va_P dD vwCl ([zX q g4, zP cA (q 3) (zfm qq n), zA cI (q 4) 144 fO, zA cI (q 5) 12 to, zR (q 2) gR, zD (q 1) gD] ++ zPool cI q qq n S C) H := by rw [eg4]; exact hP
        have hD : va_D A ([zX q g4, zP cA (q 3) (zfm qq n), zA cI (q 4) 144 fO, zA cI (q 5) 12 to, zR (q 2) gR, zD (q 1) gD] ++ zPool cI q qq n S C) := by rw [eg4]; exact hD
        obtain rfl := Option.some.inj hsp
        exact hret _ _ ls 62 dX6_noteAllWhole_62 hP hD hS
      · have hsp := z_f c3 hsp
        refine lv_aload_n hx hb dX6_noteAllWhole_26 rfl (lv_at hl 0 rfl) ?_
        refine lv_iload_n hx hb dX6_noteAllWhole_27 rfl (lv_at hl 1 rfl) ?_
        rcases z_at (qq := qq) hn12 hsp with ⟨hc5, hsp⟩ | ⟨j6, hj6, ej6, hc5, hsp⟩
        · refine z_callVq ⟨hx, hb, hml, hown, hts⟩ hK (c_X6_machineAt l dD cI cA q g_ (zfm qq n) (lo1) _ hc5) (cwV 1 hts gX6_noteAllWhole_X6_machineAt rfl rfl rfl (by decide +kernel) ⟨Nat.le_of_ble_eq_true rfl, Nat.le_of_ble_eq_true rfl⟩) (zJ.ofP (X := [zX q g_, zP cA (q 3) (zfm qq n), zA cI (q 4) 144 fO, zA cI (q 5) 12 to, zR (q 2) gR, zD (q 1) gD]) (wc := [zX q g_, zP cA (q 3) (zfm qq n)]) (wc1 := [zX q g_, zP cA (q 3) (zfm qq n)]) (wr := [zA cI (q 4) 144 fO, zA cI (q 5) 12 to, zR (q 2) gR, zD (q 1) gD]) (w2 := [zX q g_, zP cA (q 3) (zfm qq n), zA cI (q 4) 144 fO, zA cI (q 5) 12 to, zR (q 2) gR, zD (q 1) gD]) hP hD hS hA [0, 1] [2, 3, 4, 5] [4, 5, 0, 1, 2, 3] rfl rfl rfl rfl rfl rfl rfl) hS 0 6 rfl rfl rfl rfl hl.1 rfl (Nat.le_of_ble_eq_true rfl) dX6_noteAllWhole_28 ⟨Nat.zero_le _, Nat.zero_le _⟩ (fun H locs hP hD hS => ?_)
          refine z_topN ?_
          refine lv_astore_nN (lv' := [(2, .null), (0, .ref (q 0)), (1, .int lo1)]) hx hb dX6_noteAllWhole_31 rfl hl (by decide) rfl (fun ls hl => ?_)
          refine lv_aload_nN hx hb dX6_noteAllWhole_32 rfl (lv_at hl 0 rfl) ?_
          refine lv_ifnullN (tgt := 47) hx hb dX6_noteAllWhole_33 (by decide) ?_
          obtain rfl := Option.some.inj hsp
          exact hret _ _ ls 47 dX6_noteAllWhole_47 hP hD hS
        · refine z_callVq ⟨hx, hb, hml, hown, hts⟩ hK (c_X6_machineAt l dD cI cA q g_ (zfm qq n) (lo1) _ hc5) (cwV 1 hts gX6_noteAllWhole_X6_machineAt rfl rfl rfl (by decide +kernel) ⟨Nat.le_of_ble_eq_true rfl, Nat.le_of_ble_eq_true rfl⟩) (zJ.ofP (X := [zX q g_, zP cA (q 3) (zfm qq n), zA cI (q 4) 144 fO, zA cI (q 5) 12 to, zR (q 2) gR, zD (q 1) gD]) (wc := [zX q g_, zP cA (q 3) (zfm qq n)]) (wc1 := [zX q g_, zP cA (q 3) (zfm qq n)]) (wr := [zA cI (q 4) 144 fO, zA cI (q 5) 12 to, zR (q 2) gR, zD (q 1) gD]) (w2 := [zX q g_, zP cA (q 3) (zfm qq n), zA cI (q 4) 144 fO, zA cI (q 5) 12 to, zR (q 2) gR, zD (q 1) gD]) hP hD hS hA [0, 1] [2, 3, 4, 5] [4, 5, 0, 1, 2, 3] rfl rfl rfl rfl rfl rfl rfl) hS 0 6 rfl rfl rfl rfl hl.1 rfl (Nat.le_of_ble_eq_true rfl) dX6_noteAllWhole_28 ⟨Nat.zero_le _, Nat.zero_le _⟩ (fun H locs hP hD hS => ?_)
          refine z_topR ?_
          refine lv_astore_n (lv' := [(2, .ref (qq j6 0)), (0, .ref (q 0)), (1, .int lo1)]) hx hb dX6_noteAllWhole_31 rfl hl (by decide) rfl (fun ls hl => ?_)
          refine lv_aload_n hx hb dX6_noteAllWhole_32 rfl (lv_at hl 0 rfl) ?_
          refine lv_ifnull hx hb dX6_noteAllWhole_33 ?_
          refine lv_aload_n hx hb dX6_noteAllWhole_36 rfl (lv_at hl 0 rfl) ?_
          refine lv_aload_n hx hb dX6_noteAllWhole_37 rfl (lv_at hl 1 rfl) ?_
          refine va_get (D := dD) (ci := 6) (v := .int (g_ 8)) (C := RX6) (T := TX6) (N := 10) hx hb hts iX6 hown hK.1 hP 0 rfl rfl 8 (by decide) f106 (fun _ h9 => h9) rfl dX6_noteAllWhole_38 ?_
          obtain ⟨hP, hD⟩ := z_foc (fx := [zX q g_, zP cA (q 3) (zfm qq n), zA cI (q 4) 144 fO, zA cI (q 5) 12 to, zR (q 2) gR, zD (q 1) gD]) hj6 hP hD
          have hP : va_P dD vwCl ([zX q g_, zP cA (q 3) (zfm qq n), zA cI (q 4) 144 fO, zA cI (q 5) 12 to, zR (q 2) gR, zD (q 1) gD, zM (qq j6) (q 2) (q 1) (zad qq (C j6)) (S j6 0), zB (qq j6) (S j6 1), zA cI (qq j6 2) 12 (S j6 2), zA cI (qq j6 3) 12 (S j6 3), zI (qq j6) (S j6 4), zL (qq j6 5) (S j6 5)] ++ zRest cI q qq n j6 S C) H := hP
          have hD : va_D A ([zX q g_, zP cA (q 3) (zfm qq n), zA cI (q 4) 144 fO, zA cI (q 5) 12 to, zR (q 2) gR, zD (q 1) gD, zM (qq j6) (q 2) (q 1) (zad qq (C j6)) (S j6 0), zB (qq j6) (S j6 1), zA cI (qq j6 2) 12 (S j6 2), zA cI (qq j6 3) 12 (S j6 3), zI (qq j6) (S j6 4), zL (qq j6 5) (S j6 5)] ++ zRest cI q qq n j6 S C) := hD
          obtain ⟨v7, hc8, hsp⟩ := z_b1 hsp
          refine z_callVi ⟨hx, hb, hml, hown, hts⟩ hK (c_X4_isWholeOf l dD cI cA (qq j6) (q 2) (q 1) (zad qq (C j6)) (S j6 0) (S j6 1) ((g_ 8)) v7 hc8) (cwV 1 hts gX6_noteAllWhole_X4_isWholeOf rfl rfl rfl (by decide +kernel) ⟨Nat.le_of_ble_eq_true rfl, Nat.le_of_ble_eq_true rfl⟩) (zJ.ofP (X := [zX q g_, zP cA (q 3) (zfm qq n), zA cI (q 4) 144 fO, zA cI (q 5) 12 to, zR (q 2) gR, zD (q 1) gD, zM (qq j6) (q 2) (q 1) (zad qq (C j6)) (S j6 0), zB (qq j6) (S j6 1), zA cI (qq j6 2) 12 (S j6 2), zA cI (qq j6 3) 12 (S j6 3), zI (qq j6) (S j6 4), zL (qq j6 5) (S j6 5)]) (wc := [zM (qq j6) (q 2) (q 1) (zad qq (C j6)) (S j6 0), zB (qq j6) (S j6 1)]) (wc1 := [zM (qq j6) (q 2) (q 1) (zad qq (C j6)) (S j6 0), zB (qq j6) (S j6 1)]) (wr := [zX q g_, zP cA (q 3) (zfm qq n), zA cI (q 4) 144 fO, zA cI (q 5) 12 to, zR (q 2) gR, zD (q 1) gD, zA cI (qq j6 2) 12 (S j6 2), zA cI (qq j6 3) 12 (S j6 3), zI (qq j6) (S j6 4), zL (qq j6 5) (S j6 5)]) (w2 := [zX q g_, zP cA (q 3) (zfm qq n), zA cI (q 4) 144 fO, zA cI (q 5) 12 to, zR (q 2) gR, zD (q 1) gD, zM (qq j6) (q 2) (q 1) (zad qq (C j6)) (S j6 0), zB (qq j6) (S j6 1), zA cI (qq j6 2) 12 (S j6 2), zA cI (qq j6 3) 12 (S j6 3), zI (qq j6) (S j6 4), zL (qq j6 5) (S j6 5)]) hP hD hS hA [6, 7] [0, 1, 2, 3, 4, 5, 8, 9, 10, 11] [0, 1, 2, 3, 4, 5, 10, 11, 6, 7, 8, 9] rfl rfl rfl rfl rfl rfl rfl) hS 0 4 rfl rfl rfl rfl hl.1 rfl (Nat.le_of_ble_eq_true rfl) dX6_noteAllWhole_41 ⟨Nat.zero_le _, Nat.zero_le _⟩ (fun H locs hP hD hS => ?_)
          refine lv_if_ne (tgt := 48) hx hb dX6_noteAllWhole_44 (by decide) (fun c9 => ?_) (fun c9 => ?_)
          · have hsp := z_f c9 hsp
            obtain ⟨x10, ex10, hsp⟩ := z_lt hsp
            refine lv_iinc (v := x10) (lv' := [(1, .int x10), (2, .ref (qq j6 0)), (0, .ref (q 0))]) hx hb dX6_noteAllWhole_48 hl (k := 2) rfl (by rw [ex10]; rfl) (by decide) rfl (fun ls hl => ?_)
            refine lv_goto (tgt := 18) hx hb dX6_noteAllWhole_51 (by decide) ?_
            obtain ⟨hP, hD⟩ := z_unf0 [zX q g_, zP cA (q 3) (zfm qq n), zA cI (q 4) 144 fO, zA cI (q 5) 12 to, zR (q 2) gR, zD (q 1) gD] hj6 hP hD
            have hP : va_P dD vwCl ([zX q g_, zP cA (q 3) (zfm qq n), zA cI (q 4) 144 fO, zA cI (q 5) 12 to, zR (q 2) gR, zD (q 1) gD] ++ zPool cI q qq n S C) H := hP
            have hD : va_D A ([zX q g_, zP cA (q 3) (zfm qq n), zA cI (q 4) 144 fO, zA cI (q 5) 12 to, zR (q 2) gR, zD (q 1) gD] ++ zPool cI q qq n S C) := hD
            exact ih18 _ _ ls g_ (x10) hP hD hS (lv_sub hl [2, 0] rfl) hsp
          · have hsp := z_t c9 hsp
            obtain ⟨hP, hD⟩ := z_unf0 [zX q g_, zP cA (q 3) (zfm qq n), zA cI (q 4) 144 fO, zA cI (q 5) 12 to, zR (q 2) gR, zD (q 1) gD] hj6 hP hD
            have hP : va_P dD vwCl ([zX q g_, zP cA (q 3) (zfm qq n), zA cI (q 4) 144 fO, zA cI (q 5) 12 to, zR (q 2) gR, zD (q 1) gD] ++ zPool cI q qq n S C) H := hP
            have hD : va_D A ([zX q g_, zP cA (q 3) (zfm qq n), zA cI (q 4) 144 fO, zA cI (q 5) 12 to, zR (q 2) gR, zD (q 1) gD] ++ zPool cI q qq n S C) := hD
            obtain rfl := Option.some.inj hsp
            exact hret _ _ ls 47 dX6_noteAllWhole_47 hP hD hS
  unfold s_X6_noteAllWhole at hsp
  refine lv_aload_n hx hb dX6_noteAllWhole_0 rfl (lv_at hl 0 rfl) ?_
  refine va_get (D := dD) (ci := 6) (v := .int (g 9)) (C := RX6) (T := TX6) (N := 10) hx hb hts iX6 hown hK.1 hP 0 rfl rfl 9 (by decide) f42 (fun _ h9 => h9) rfl dX6_noteAllWhole_1 ?_
  refine lv_iconst (v := (-1)) hx hb dX6_noteAllWhole_4 (by decide) ?_
  refine lv_icmp_ne (tgt := 15) hx hb dX6_noteAllWhole_5 (by decide) (fun c1 => ?_) (fun c1 => ?_)
  · have hsp := z_f c1 hsp
    obtain rfl := Option.some.inj hsp
    exact hret _ _ ls 15 dX6_noteAllWhole_15 hP hD hS
  · have hsp := z_t c1 hsp
    refine lv_aload_n hx hb dX6_noteAllWhole_8 rfl (lv_at hl 0 rfl) ?_
    refine va_get (D := dD) (ci := 6) (v := .int (g 8)) (C := RX6) (T := TX6) (N := 10) hx hb hts iX6 hown hK.1 hP 0 rfl rfl 8 (by decide) f106 (fun _ h9 => h9) rfl dX6_noteAllWhole_9 ?_
    refine lv_if_ne (tgt := 16) hx hb dX6_noteAllWhole_12 (by decide) (fun c2 => ?_) (fun c2 => ?_)
    · have hsp := z_f c2 hsp
      refine lv_iconst (v := 0) hx hb dX6_noteAllWhole_16 (by decide) ?_
      refine lv_istore_n (lv' := [(1, .int 0), (0, .ref (q 0))]) hx hb dX6_noteAllWhole_17 rfl hl (by decide) rfl (fun ls hl => ?_)
      exact K_18 13 _ _ ls g (0) hP hD hS (lv_sub hl [1, 0] rfl) hsp
    · have hsp := z_t c2 hsp
      obtain rfl := Option.some.inj hsp
      exact hret _ _ ls 15 dX6_noteAllWhole_15 hP hD hS
def s_X6_ticks_b26 (fO : zF) (to : zF) (gR : zF) (n : Nat) : Nat → (zF) → (zF) → (Nat → Nat → zF) → (Nat → Option Nat) → (Int32) → (Int32) → Option (Int32 × (zF) × (zF) × (Nat → Nat → zF) × (Nat → Option Nat))
  | 0, _, _, _, _, _, _ => none
  | n26 + 1, g_, gD_, S_, C_, lo1, lo2 => (if lo1 ≤ lo2 then some ((g_ 7), g_, gD_, S_, C_) else zb2 (s_X6_sendLetters g_ fO to gR gD_ S_ C_ n) fun (gD6 : zF) (S7 : Nat → Nat → zF) => zb3 (s_X6_hearLetters g_ fO to gR gD6 S7 C_ n) fun (gD9 : zF) (S10 : Nat → Nat → zF) (C11 : Nat → Option Nat) => zb2 (s_X6_letLettersWork g_ fO to gR gD9 S10 C11 n) fun (gD13 : zF) (S14 : Nat → Nat → zF) => zb2 (s_X6_endTick g_ fO to gR gD13 S14 C11 n) fun (gD16 : zF) (S17 : Nat → Nat → zF) => zb1 (s_X6_noteAllWhole g_ fO to gR gD16 S17 C11 n) fun (g19 : zF) => zl (va_up g19 7 (((g19 7) + 1))) fun (g21 : zF) => zl (lo2 + 1) fun (x22 : Int32) => (s_X6_ticks_b26 fO to gR n n26 g21 gD16 S17 C11 (lo1) (x22)))
def s_X6_ticks (g : zF) (fO : zF) (to : zF) (gR : zF) (gD : zF) (S : Nat → Nat → zF) (C : Nat → Option Nat) (n : Nat) (p1 : Int32) : Option (Int32 × (zF) × (zF) × (Nat → Nat → zF) × (Nat → Option Nat)) := zb1 (s_X6_within (p1) (1) (200)) fun (v1 : Int32) => (if v1 = 0 then some ((-1), g, gD, S, C) else (if p1 ≤ (100000 - (g 7)) then (s_X6_ticks_b26 fO to gR n 201 g gD S C (p1) (0)) else some ((-1), g, gD, S, C)))
abbrev rm_X6_ticks : Room := { frames := 7, cells := 0, slots := 0, locals := 157 }
set_option maxHeartbeats 4000000 in
set_option maxRecDepth 100000 in
theorem c_X6_ticks (l : Launch) (dD : va_G) (cI cA : ClassId) (q : Nat → Nat) (qq : Nat → Nat → Nat) (n : Nat) (hn12 : n ≤ 12) (g : zF) (fO : zF) (to : zF) (gR : zF) (gD : zF) (S : Nat → Nat → zF) (C : Nat → Option Nat) (p1 : Int32) (rv : Int32) (r_g : zF) (r_gD : zF) (r_S : Nat → Nat → zF) (r_C : Nat → Option Nat) (hsp : s_X6_ticks g fO to gR gD S C n p1 = some (rv, r_g, r_gD, r_S, r_C)) : zMi l yX6_ticks wsX6_ticks rm_X6_ticks dD cI cA [.ref (q 0), .int p1] ([zX q g, zP cA (q 3) (zfm qq n), zA cI (q 4) 144 fO, zA cI (q 5) 12 to, zR (q 2) gR, zD (q 1) gD] ++ zPool cI q qq n S C) ([zX q r_g, zP cA (q 3) (zfm qq n), zA cI (q 4) 144 fO, zA cI (q 5) 12 to, zR (q 2) gR, zD (q 1) r_gD] ++ zPool cI q qq n r_S r_C) rv := by
  refine zMi_of (cc := cX6_ticks) (maxL := 3) (by decide) rfl (Nat.le_of_ble_eq_true rfl) ?_
  intro p e s m args below meth c A Q ls hx hb hml hown hts hK hA hP hD hl hret
  have hown : s.vm.findClass RX6 = some m.cls := hown
  have iX6 : ∀ w ∈ wsX60, w ∈ wsX6_ticks := by decide +kernel
  have f75 := hts (.fieldLink RX6 75 "MeshField" "now" "I") (by decide +kernel)
  have hS : va_S A s.heap s.heap [] := va_S.rf
  have hl : lv_has ls 3 [(0, .ref (q 0)), (1, .int p1)] := hl
  have K_26 : ∀ (nf : Nat) (H : Heap) (locs : List Loc) (ls : Array Slot) (g_ : zF) (gD_ : zF) (S_ : Nat → Nat → zF) (C_ : Nat → Option Nat) (lo1 : Int32) (lo2 : Int32), va_P dD vwCl ([zX q g_, zP cA (q 3) (zfm qq n), zA cI (q 4) 144 fO, zA cI (q 5) 12 to, zR (q 2) gR, zD (q 1) gD_] ++ zPool cI q qq n S_ C_) H → va_D A ([zX q g_, zP cA (q 3) (zfm qq n), zA cI (q 4) 144 fO, zA cI (q 5) 12 to, zR (q 2) gR, zD (q 1) gD_] ++ zPool cI q qq n S_ C_) → va_S A s.heap H locs → lv_has ls 3 [(0, .ref (q 0)), (1, .int lo1), (2, .int lo2)] → s_X6_ticks_b26 fO to gR n nf g_ gD_ S_ C_ lo1 lo2 = some (rv, r_g, r_gD, r_S, r_C) → W p l e rm_X6_ticks s m args below meth c H locs 0 0 Q (F0 m 26 ls []) := by
    intro nf
    induction nf with
    | zero =>
      intro H locs ls g_ gD_ S_ C_ lo1 lo2 hP hD hS hl hsp
      exact absurd (show (none : Option (Int32 × (zF) × (zF) × (Nat → Nat → zF) × (Nat → Option Nat))) = some (rv, r_g, r_gD, r_S, r_C) from hsp) (fun h => by cases h)
    | succ n26 ih26 =>
      intro H locs ls g_ gD_ S_ C_ lo1 lo2 hP hD hS hl hsp
      rw [s_X6_ticks_b26] at hsp
      refine lv_iload_n hx hb dX6_ticks_26 rfl (lv_at hl 2 rfl) ?_
      refine lv_iload_n hx hb dX6_ticks_27 rfl (lv_at hl 1 rfl) ?_
      refine lv_icmp_ge (tgt := 67) hx hb dX6_ticks_28 (by decide) (fun c5 => ?_) (fun c5 => ?_)
      · have hsp := z_t c5 hsp
        refine lv_aload_n hx hb dX6_ticks_67 rfl (lv_at hl 0 rfl) ?_
        refine va_get (D := dD) (ci := 6) (v := .int (g_ 7)) (C := RX6) (T := TX6) (N := 10) hx hb hts iX6 hown hK.1 hP 0 rfl rfl 7 (by decide) f75 (fun _ h9 => h9) rfl dX6_ticks_68 ?_
        obtain ⟨rfl, rfl, rfl, rfl, rfl⟩ := z_i5 hsp
        exact hret _ _ ls 71 dX6_ticks_71 rfl hP hD hS
      · have hsp := z_f c5 hsp
        refine lv_aload_n hx hb dX6_ticks_31 rfl (lv_at hl 0 rfl) ?_
        obtain ⟨gD6, S7, hc8, hsp⟩ := z_b2 hsp
        refine z_callVv ⟨hx, hb, hml, hown, hts⟩ hK (c_X6_sendLetters l dD cI cA q qq n hn12 g_ fO to gR gD_ S_ C_ gD6 S7 hc8) (cwV 0 hts gX6_ticks_X6_sendLetters rfl rfl rfl (by decide +kernel) ⟨Nat.le_of_ble_eq_true rfl, Nat.le_of_ble_eq_true rfl⟩) (zJ.full hP hD hS hA) hS 0 6 rfl rfl rfl rfl hl.1 rfl (Nat.le_of_ble_eq_true rfl) dX6_ticks_32 ⟨Nat.zero_le _, Nat.zero_le _⟩ (fun H locs hP hD hS => ?_)
        refine lv_aload_n hx hb dX6_ticks_35 rfl (lv_at hl 0 rfl) ?_
        obtain ⟨gD9, S10, C11, hc12, hsp⟩ := z_b3 hsp
        refine z_callVv ⟨hx, hb, hml, hown, hts⟩ hK (c_X6_hearLetters l dD cI cA q qq n hn12 g_ fO to gR gD6 S7 C_ gD9 S10 C11 hc12) (cwV 0 hts gX6_ticks_X6_hearLetters rfl rfl rfl (by decide +kernel) ⟨Nat.le_of_ble_eq_true rfl, Nat.le_of_ble_eq_true rfl⟩) (zJ.full hP hD hS hA) hS 0 6 rfl rfl rfl rfl hl.1 rfl (Nat.le_of_ble_eq_true rfl) dX6_ticks_36 ⟨Nat.zero_le _, Nat.zero_le _⟩ (fun H locs hP hD hS => ?_)
        refine lv_aload_n hx hb dX6_ticks_39 rfl (lv_at hl 0 rfl) ?_
        obtain ⟨gD13, S14, hc15, hsp⟩ := z_b2 hsp
        refine z_callVv ⟨hx, hb, hml, hown, hts⟩ hK (c_X6_letLettersWork l dD cI cA q qq n hn12 g_ fO to gR gD9 S10 C11 gD13 S14 hc15) (cwV 0 hts gX6_ticks_X6_letLettersWork rfl rfl rfl (by decide +kernel) ⟨Nat.le_of_ble_eq_true rfl, Nat.le_of_ble_eq_true rfl⟩) (zJ.full hP hD hS hA) hS 0 6 rfl rfl rfl rfl hl.1 rfl (Nat.le_of_ble_eq_true rfl) dX6_ticks_40 ⟨Nat.zero_le _, Nat.zero_le _⟩ (fun H locs hP hD hS => ?_)
        refine lv_aload_n hx hb dX6_ticks_43 rfl (lv_at hl 0 rfl) ?_
        obtain ⟨gD16, S17, hc18, hsp⟩ := z_b2 hsp
        refine z_callVv ⟨hx, hb, hml, hown, hts⟩ hK (c_X6_endTick l dD cI cA q qq n hn12 g_ fO to gR gD13 S14 C11 gD16 S17 hc18) (cwV 0 hts gX6_ticks_X6_endTick rfl rfl rfl (by decide +kernel) ⟨Nat.le_of_ble_eq_true rfl, Nat.le_of_ble_eq_true rfl⟩) (zJ.full hP hD hS hA) hS 0 6 rfl rfl rfl rfl hl.1 rfl (Nat.le_of_ble_eq_true rfl) dX6_ticks_44 ⟨Nat.zero_le _, Nat.zero_le _⟩ (fun H locs hP hD hS => ?_)
        refine lv_aload_n hx hb dX6_ticks_47 rfl (lv_at hl 0 rfl) ?_
        obtain ⟨g19, hc20, hsp⟩ := z_b1 hsp
        refine z_callVv ⟨hx, hb, hml, hown, hts⟩ hK (c_X6_noteAllWhole l dD cI cA q qq n hn12 g_ fO to gR gD16 S17 C11 g19 hc20) (cwV 0 hts gX6_ticks_X6_noteAllWhole rfl rfl rfl (by decide +kernel) ⟨Nat.le_of_ble_eq_true rfl, Nat.le_of_ble_eq_true rfl⟩) (zJ.full hP hD hS hA) hS 0 6 rfl rfl rfl rfl hl.1 rfl (Nat.le_of_ble_eq_true rfl) dX6_ticks_48 ⟨Nat.zero_le _, Nat.zero_le _⟩ (fun H locs hP hD hS => ?_)
        refine lv_aload_n hx hb dX6_ticks_51 rfl (lv_at hl 0 rfl) ?_
        refine lv_dup hx hb dX6_ticks_52 rfl ?_
        refine va_get (D := dD) (ci := 6) (v := .int (g19 7)) (C := RX6) (T := TX6) (N := 10) hx hb hts iX6 hown hK.1 hP 0 rfl rfl 7 (by decide) f75 (fun _ h9 => h9) rfl dX6_ticks_53 ?_
        refine lv_iconst (v := 1) hx hb dX6_ticks_56 (by decide) ?_
        refine lv_iadd hx hb dX6_ticks_57 ?_
        refine va_put (D := dD) (ci := 6) (v := .int ((g19 7) + 1)) (ty := .int) (C := RX6) (T := TX6) (N := 10) hx hb hts iX6 tyX6 tyX6_ok nmX6 hown hK.1 hP hD hS 0 rfl rfl 7 (by decide) f75 (fun _ h9 => h9) rfl (by decide +kernel) rfl rfl (Nat.le_of_ble_eq_true rfl) dX6_ticks_58 (fun H locs hP hD hS => ?_)
        obtain ⟨g21, eg21, hsp⟩ := z_lt hsp
        have hP : va_P dD vwCl ([zX q g21, zP cA (q 3) (zfm qq n), zA cI (q 4) 144 fO, zA cI (q 5) 12 to, zR (q 2) gR, zD (q 1) gD16] ++ zPool cI q qq n S17 C11) H := by rw [eg21]; exact hP
        have hD : va_D A ([zX q g21, zP cA (q 3) (zfm qq n), zA cI (q 4) 144 fO, zA cI (q 5) 12 to, zR (q 2) gR, zD (q 1) gD16] ++ zPool cI q qq n S17 C11) := by rw [eg21]; exact hD
        obtain ⟨x22, ex22, hsp⟩ := z_lt hsp
        refine lv_iinc (v := x22) (lv' := [(2, .int x22), (0, .ref (q 0)), (1, .int lo1)]) hx hb dX6_ticks_61 hl (k := 2) rfl (by rw [ex22]; rfl) (by decide) rfl (fun ls hl => ?_)
        refine lv_goto (tgt := 26) hx hb dX6_ticks_64 (by decide) ?_
        exact ih26 _ _ ls g21 gD16 S17 C11 (lo1) (x22) hP hD hS (lv_sub hl [1, 2, 0] rfl) hsp
  unfold s_X6_ticks at hsp
  refine lv_iload_n hx hb dX6_ticks_0 rfl (lv_at hl 1 rfl) ?_
  refine lv_iconst (v := 1) hx hb dX6_ticks_1 (by decide) ?_
  refine lv_sipush (v := 200) hx hb dX6_ticks_2 (by decide) ?_
  obtain ⟨v1, hc2, hsp⟩ := z_b1 hsp
  refine z_callSi ⟨hx, hb, hml, hown, hts⟩ hK (c_X6_within l dD cI cA (p1) (1) (200) v1 hc2) (va_cwS 3 hts gX6_ticks_X6_within rfl rfl rfl (by decide +kernel) ⟨Nat.le_of_ble_eq_true rfl, Nat.le_of_ble_eq_true rfl⟩) (zJ.ofP (X := [zX q g, zP cA (q 3) (zfm qq n), zA cI (q 4) 144 fO, zA cI (q 5) 12 to, zR (q 2) gR, zD (q 1) gD]) (wc := []) (wc1 := []) (wr := [zX q g, zP cA (q 3) (zfm qq n), zA cI (q 4) 144 fO, zA cI (q 5) 12 to, zR (q 2) gR, zD (q 1) gD]) (w2 := [zX q g, zP cA (q 3) (zfm qq n), zA cI (q 4) 144 fO, zA cI (q 5) 12 to, zR (q 2) gR, zD (q 1) gD]) hP hD hS hA [] [0, 1, 2, 3, 4, 5] [0, 1, 2, 3, 4, 5] rfl rfl rfl rfl rfl rfl rfl) hS rfl hl.1 rfl (Nat.le_of_ble_eq_true rfl) dX6_ticks_5 ⟨Nat.zero_le _, Nat.zero_le _⟩ (fun H locs hP hD hS => ?_)
  refine lv_if_eq (tgt := 22) hx hb dX6_ticks_8 (by decide) (fun c3 => ?_) (fun c3 => ?_)
  · have hsp := z_t c3 hsp
    refine lv_iconst (v := (-1)) hx hb dX6_ticks_22 (by decide) ?_
    obtain ⟨rfl, rfl, rfl, rfl, rfl⟩ := z_i5 hsp
    exact hret _ _ ls 23 dX6_ticks_23 rfl hP hD hS
  · have hsp := z_f c3 hsp
    refine lv_iload_n hx hb dX6_ticks_11 rfl (lv_at hl 1 rfl) ?_
    refine lv_ldc (v := 100000) hx hb hown (hts (.constant RX6 133 100000) (by decide +kernel)) dX6_ticks_12 ?_
    refine lv_aload_n hx hb dX6_ticks_14 rfl (lv_at hl 0 rfl) ?_
    refine va_get (D := dD) (ci := 6) (v := .int (g 7)) (C := RX6) (T := TX6) (N := 10) hx hb hts iX6 hown hK.1 hP 0 rfl rfl 7 (by decide) f75 (fun _ h9 => h9) rfl dX6_ticks_15 ?_
    refine lv_isub hx hb dX6_ticks_18 ?_
    refine lv_icmp_le (tgt := 24) hx hb dX6_ticks_19 (by decide) (fun c4 => ?_) (fun c4 => ?_)
    · have hsp := z_t c4 hsp
      refine lv_iconst (v := 0) hx hb dX6_ticks_24 (by decide) ?_
      refine lv_istore_n (lv' := [(2, .int 0), (0, .ref (q 0)), (1, .int p1)]) hx hb dX6_ticks_25 rfl hl (by decide) rfl (fun ls hl => ?_)
      exact K_26 201 _ _ ls g gD S C (p1) (0) hP hD hS (lv_sub hl [1, 2, 0] rfl) hsp
    · have hsp := z_f c4 hsp
      refine lv_iconst (v := (-1)) hx hb dX6_ticks_22 (by decide) ?_
      obtain ⟨rfl, rfl, rfl, rfl, rfl⟩ := z_i5 hsp
      exact hret _ _ ls 23 dX6_ticks_23 rfl hP hD hS
