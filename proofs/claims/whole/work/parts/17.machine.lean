def s_X6_machine (g : zF) (fO : zF) (to : zF) (gR : zF) (gD : zF) (S : Nat → Nat → zF) (C : Nat → Option Nat) (n : Nat) : Option Int32 := zl ((g 5)) fun (x1 : Int32) => (if x1 < 0 then some ((-1)) else (if x1 < 12 then none else some ((-1))))
abbrev rm_X6_machine : Room := { frames := 3, cells := 0, slots := 0, locals := 54 }
set_option maxHeartbeats 4000000 in
set_option maxRecDepth 100000 in
theorem c_X6_machine (l : Launch) (dD : va_G) (cI cA : ClassId) (q : Nat → Nat) (qq : Nat → Nat → Nat) (n : Nat) (hn12 : n ≤ 12) (g : zF) (fO : zF) (to : zF) (gR : zF) (gD : zF) (S : Nat → Nat → zF) (C : Nat → Option Nat) (rv : Int32) (hsp : s_X6_machine g fO to gR gD S C n = some rv) : zMi l yX6_machine wsX6_machine rm_X6_machine dD cI cA [.ref (q 0)] ([zX q g, zP cA (q 3) (zfm qq n), zA cI (q 4) 144 fO, zA cI (q 5) 12 to, zR (q 2) gR, zD (q 1) gD] ++ zPool cI q qq n S C) ([zX q g, zP cA (q 3) (zfm qq n), zA cI (q 4) 144 fO, zA cI (q 5) 12 to, zR (q 2) gR, zD (q 1) gD] ++ zPool cI q qq n S C) rv := by
  refine zMi_of (cc := cX6_machine) (maxL := 3) (by decide) rfl (Nat.le_of_ble_eq_true rfl) ?_
  intro p e s m args below meth c A Q ls hx hb hml hown hts hK hA hP hD hl hret
  have hown : s.vm.findClass RX6 = some m.cls := hown
  have iX6 : ∀ w ∈ wsX60, w ∈ wsX6_machine := by decide +kernel
  have f53 := hts (.fieldLink RX6 53 "MeshField" "machineCount" "I") (by decide +kernel)
  have f25 := hts (.fieldLink RX6 25 "MeshField" "machines" "[LMeshField$Machine;") (by decide +kernel)
  have hS : va_S A s.heap s.heap [] := va_S.rf
  have hl : lv_has ls 3 [(0, .ref (q 0))] := hl
  unfold s_X6_machine at hsp
  refine lv_aload_n hx hb dX6_machine_0 rfl (lv_at hl 0 rfl) ?_
  refine va_get (D := dD) (ci := 6) (v := .int (g 5)) (C := RX6) (T := TX6) (N := 10) hx hb hts iX6 hown hK.1 hP 0 rfl rfl 5 (by decide) f53 (fun _ h9 => h9) rfl dX6_machine_1 ?_
  obtain ⟨x1, ex1, hsp⟩ := z_lt hsp
  refine z_top ex1 ?_
  refine lv_istore_n (lv' := [(1, .int x1), (0, .ref (q 0))]) hx hb dX6_machine_4 rfl hl (by decide) rfl (fun ls hl => ?_)
  refine lv_iload_n hx hb dX6_machine_5 rfl (lv_at hl 0 rfl) ?_
  refine lv_if_lt (tgt := 18) hx hb dX6_machine_6 (by decide) (fun c2 => ?_) (fun c2 => ?_)
  · have hsp := z_t c2 hsp
    refine lv_iconst (v := (-1)) hx hb dX6_machine_18 (by decide) ?_
    obtain rfl := Option.some.inj hsp
    exact hret _ _ ls 19 dX6_machine_19 rfl hP hD hS
  · have hsp := z_f c2 hsp
    refine lv_iload_n hx hb dX6_machine_9 rfl (lv_at hl 0 rfl) ?_
    refine lv_aload_n hx hb dX6_machine_10 rfl (lv_at hl 1 rfl) ?_
    refine va_get (D := dD) (ci := 6) (v := .ref (q 3)) (C := RX6) (T := TX6) (N := 10) hx hb hts iX6 hown hK.1 hP 0 rfl rfl 2 (by decide) f25 (fun _ h9 => h9) rfl dX6_machine_11 ?_
    refine va_alen (v := 12) hx hb hK.1 hP 1 1 rfl rfl rfl dX6_machine_14 ?_
    refine lv_icmp_lt (tgt := 20) hx hb dX6_machine_15 (by decide) (fun c3 => ?_) (fun c3 => ?_)
    · have hsp := z_t c3 hsp
      exact absurd hsp (fun h => by cases h)
    · have hsp := z_f c3 hsp
      refine lv_iconst (v := (-1)) hx hb dX6_machine_18 (by decide) ?_
      obtain rfl := Option.some.inj hsp
      exact hret _ _ ls 19 dX6_machine_19 rfl hP hD hS

theorem z_pc_old {cI : ClassId} {q : Nat → Nat} {qq : Nat → Nat → Nat} {n j : Nat} {S : Nat → Nat → zF} {C : Nat → Option Nat} (u : Nat → Nat) (x : Nat → zF) (hj : j < n) (hC : ∀ k, C j = some k → k < n) : zPc cI q (va_up qq n u) (va_up S n x) (va_up C n none) j = zPc cI q qq S C j := by
  have hne : j ≠ n := by omega
  have hz : zad (va_up qq n u) (C j) = zad qq (C j) := by
    cases h : C j with
    | none => rfl
    | some k =>
      have hk : k ≠ n := by have := hC k h; omega
      simp [zad, va_up, hk]
  simp only [zPc, z6, zM, zB, zI]
  have e1 : va_up qq n u j = qq j := by simp [va_up, hne]
  have e2 : va_up S n x j = S j := by simp [va_up, hne]
  have e3 : va_up C n none j = C j := by simp [va_up, hne]
  rw [e1, e2, e3, hz]
theorem z_pool_succ {cI : ClassId} {q : Nat → Nat} {qq : Nat → Nat → Nat} {n : Nat} {S : Nat → Nat → zF} {C : Nat → Option Nat} (fx : va_W) (u : Nat → Nat) (gM gB mk mx gI gL : zF) (hC : ∀ j, j < n → ∀ k, C j = some k → k < n) : ((fx ++ [zM u (q 2) (q 1) none gM, zB u gB, zA cI (u 2) 12 mk, zA cI (u 3) 12 mx, zI u gI, zL (u 5) gL]) ++ zPool cI q qq n S C).Perm (fx ++ zPool cI q (va_up qq n u) (n + 1) (va_up S n (zs6 gM gB mk mx gI gL)) (va_up C n none)) := by
  have h1 : zPool cI q (va_up qq n u) (n + 1) (va_up S n (zs6 gM gB mk mx gI gL)) (va_up C n none) = zPool cI q qq n S C ++ [zM u (q 2) (q 1) none gM, zB u gB, zA cI (u 2) 12 mk, zA cI (u 3) 12 mx, zI u gI, zL (u 5) gL] := by
    unfold zPool
    rw [List.range_succ, List.flatMap_append]
    congr 1
    · rw [List.flatMap_def, List.flatMap_def]
      congr 1
      exact List.map_congr_left (fun j hj => z_pc_old u _ (List.mem_range.mp hj) (hC j (List.mem_range.mp hj)))
    · simp [zPc, z6, va_up, zs6, zad]
  rw [h1, List.append_assoc]
  exact List.Perm.append_left fx List.perm_append_comm
theorem z_fm_succ {qq : Nat → Nat → Nat} {n : Nat} (u : Nat → Nat) : va_up (zfm qq n) n (some (u 0)) = zfm (va_up qq n u) (n + 1) := by
  funext k
  by_cases h : k = n
  · subst h; simp [va_up, zfm]
  · by_cases h2 : k < n
    · have h3 : k < n + 1 := by omega
      simp [va_up, zfm, h, h2, h3]
    · have h3 : ¬ k < n + 1 := by omega
      simp [va_up, zfm, h, h2, h3]
def zMj (l : Launch) (y : MethodName) (wsy : List Cond) (rm : Room) (dD : va_G) (cI cA : ClassId) (av : List Value) (ws : va_W) (ans : Int32) {S : Type} (ws1 : S → va_W) (mc ms : Nat) : Prop := ∀ sz : Nat, Met l y wsy rm (va_Pc av (zPre dD cI cA ws sz)) (va_Qi (fun (r : Int32) (_ : S) => r = ans) (fun u t => zPost dD ws (ws1 u) sz t) (va_A ws sz)) mc ms (va_A ws sz)
theorem zMj_of {l : Launch} {y : MethodName} {wsy wsy' : List Cond} {rm : Room} {dD : va_G} {cI cA : ClassId} {av : List Value} {ws : va_W} {ans : Int32} {S : Type} {ws1 : S → va_W} {mc ms : Nat} {cc : ByteArray} {maxL : Nat} (hy : plainName y.cls = true) (hw : wsy = Cond.code y cc maxL (some .int) :: wsy') (hnl : (lg_sl av).length ≤ maxL)
    (body : ∀ (p : Program) (e : Env) (s : State) (m : MethodId) (args : Array Value) (below : List Frame) (meth : Method) (c : Code) (A : Nat → Prop) (Q : State → Prop) (ls : Array Slot), p.tables.exec = Jvm.exec → c.code = cc → c.maxLocals = maxL → s.vm.findClass y.cls = some m.cls → (∀ w ∈ wsy, w.before args s = true) → zK dD cI cA s → (∀ q, s.heap.size ≤ q → A q) → va_P dD vwCl ws s.heap → va_D A ws → lv_has ls maxL (lv_args 0 av) →
      (∀ (u : S) (H : Heap) (locs : List Loc) (ls : Array Slot) (pc : Nat), decode cc pc = .ok (.ireturn, 1) → va_P dD vwCl (ws1 u) H → va_D A (ws1 u) → va_S A s.heap H locs → W p l e rm s m args below meth c H locs mc ms Q (F0 m pc ls [.int ans])) →
      W p l e rm s m args below meth c s.heap [] 0 0 Q (F0 m 0 ls [])) : zMj l y wsy rm dD cI cA av ws ans ws1 mc ms := by
  intro sz
  refine Met.ofW (cc := cc) (maxL := maxL) (ret := some .int) hy hw ?_
  intro p e s m args below meth c s₁ B hml hv
  obtain ⟨rfl, hsz, hP, hK, hD0⟩ := hv
  subst hsz
  have hl := lv_entry av (n := maxL) hnl
  rw [lg_entry_eq]
  refine body p e s m _ below meth c (va_A ws s.heap.size) _ _ B.exec B.bytes hml (findClass_of_methodNamed B.named) (atoms_spec (ws := wsy) B.pre) hK (fun q h => Or.inr h) hP hD0.self hl ?_
  intro u H locs ls pc hd hP hD hS
  exact W.zret B.exec B.bytes B.returns rfl (fun t ht hW => ⟨⟨ans, u, rfl, rfl, by rw [ht]; exact hP, hD⟩, hS.F ht⟩) hS.2.2 hd B.notSynchronized
abbrev rm_X6_machine_new : Room := { frames := 3, cells := 6, slots := 58, locals := 54 }
set_option maxHeartbeats 4000000 in
set_option maxRecDepth 100000 in
theorem c_X6_machine_new (l : Launch) (dD : va_G) (cI cA : ClassId) (q : Nat → Nat) (qq : Nat → Nat → Nat) (n : Nat) (g fO to gR gD : zF) (S : Nat → Nat → zF) (C : Nat → Option Nat) (gI1 gD1 : zF) (hn : n < 12) (hg : g 5 = nI n) (hC : ∀ j, j < n → ∀ k, C j = some k → k < n) (hbg : s_X2_begin (fun _ => 0) gD (gR 1) (g 7) = some (gI1, gD1)) : zMj l yX6_machine wsX6_machine rm_X6_machine_new dD cI cA [.ref (q 0)] ([zX q g, zP cA (q 3) (zfm qq n), zA cI (q 4) 144 fO, zA cI (q 5) 12 to, zR (q 2) gR, zD (q 1) gD] ++ zPool cI q qq n S C) (g 5) (fun u : Nat → Nat => [zX q (va_up g 5 (g 5 + 1)), zP cA (q 3) (zfm (va_up qq n u) (n + 1)), zA cI (q 4) 144 fO, zA cI (q 5) 12 to, zR (q 2) gR, zD (q 1) gD1] ++ zPool cI q (va_up qq n u) (n + 1) (va_up S n (zs6 gM0 (fun _ => 0) (fun _ => 0) (fun _ => 0) gI1 (fun _ => 0))) (va_up C n none)) 6 58 := by
  refine zMj_of (cc := cX6_machine) (maxL := 3) (by decide) rfl (Nat.le_of_ble_eq_true rfl) ?_
  intro p e s m args below meth c A Q ls hx hb hml hown hts hK hA hP hD hl hret
  have hown : s.vm.findClass RX6 = some m.cls := hown
  have iX4 : ∀ w ∈ wsX40, w ∈ wsX6_machine := by decide +kernel
  have iX5 : ∀ w ∈ wsX50, w ∈ wsX6_machine := by decide +kernel
  have iX6 : ∀ w ∈ wsX60, w ∈ wsX6_machine := by decide +kernel
  have f53 := hts (.fieldLink RX6 53 "MeshField" "machineCount" "I") (by decide +kernel)
  have f25 := hts (.fieldLink RX6 25 "MeshField" "machines" "[LMeshField$Machine;") (by decide +kernel)
  have f19 := hts (.fieldLink RX6 19 "MeshField" "fieldRules" "LMeshField$Rules;") (by decide +kernel)
  have f10 := hts (.fieldLink RX6 10 "MeshField" "draws" "LMeshField$Draws;") (by decide +kernel)
  have f71 : (Cond.fieldLinkNest RX6 71 "MeshField$Machine" "interval" "LMeshField$Interval;" "MeshField").before args s = true := hK.nw (by decide +kernel)
  have f59 : (Cond.fieldLinkNest RX6 59 "MeshField$Rules" "low" "I" "MeshField").before args s = true := hK.nw (by decide +kernel)
  have f75 := hts (.fieldLink RX6 75 "MeshField" "now" "I") (by decide +kernel)
  have hg0 : ¬ g 5 < 0 := by rw [hg]; exact nI_pos (by omega)
  have hg1 : g 5 < 12 := by rw [hg]; exact nI_lt (a := n) (b := 12) hn (by omega)
  have hgn : (g 5).toNatClampNeg = n := by rw [hg]; exact nI_clamp (by omega)
  have hgi : vp_in (g 5) 12 := by rw [hg]; exact vp_in_nI hn (by omega)
  have hS : va_S A s.heap s.heap [] := va_S.rf
  have hl : lv_has ls 3 [(0, .ref (q 0))] := hl
  refine lv_aload_n hx hb dX6_machine_0 rfl (lv_at hl 0 rfl) ?_
  refine va_get (D := dD) (ci := 6) (v := .int (g 5)) (C := RX6) (T := TX6) (N := 10) hx hb hts iX6 hown hK.1 hP 0 rfl rfl 5 (by decide) f53 (fun _ h9 => h9) rfl dX6_machine_1 ?_
  refine lv_istore_n (lv' := [(1, .int (g 5)), (0, .ref (q 0))]) hx hb dX6_machine_4 rfl hl (by decide) rfl (fun ls hl => ?_)
  refine lv_iload_n hx hb dX6_machine_5 rfl (lv_at hl 0 rfl) ?_
  refine lv_if_lt (tgt := 18) hx hb dX6_machine_6 (by decide) (fun c1 => absurd c1 hg0) (fun c1 => ?_)
  refine lv_iload_n hx hb dX6_machine_9 rfl (lv_at hl 0 rfl) ?_
  refine lv_aload_n hx hb dX6_machine_10 rfl (lv_at hl 1 rfl) ?_
  refine va_get (D := dD) (ci := 6) (v := .ref (q 3)) (C := RX6) (T := TX6) (N := 10) hx hb hts iX6 hown hK.1 hP 0 rfl rfl 2 (by decide) f25 (fun _ h9 => h9) rfl dX6_machine_11 ?_
  refine va_alen (v := 12) hx hb hK.1 hP 1 1 rfl rfl rfl dX6_machine_14 ?_
  refine lv_icmp_lt (tgt := 20) hx hb dX6_machine_15 (by decide) (fun c2 => ?_) (fun c2 => absurd hg1 c2)
  refine va_new (ci := 4) (fs := [.null, .null, .null, .null, .null, .null, .int 0, .int 0, .int 0, .int 0, .int 0, .int 0, .int 0, .int 0, .int 0, .int 0, .int 0, .int 0]) (C := RX4) (T := TX4) (N := 18) hx hb hts iX4 tyX4 tyX4_ok hown (hts (.classLink RX6 23 RX4) (by decide +kernel)) (hts (.instantiable RX4 18) (by decide +kernel)) (hts (.initialized RX4) (by decide +kernel)) hK.1 hP hD hS hA rfl (fun j hj => by rcases (show j = 0 ∨ j = 1 ∨ j = 2 ∨ j = 3 ∨ j = 4 ∨ j = 5 ∨ j = 6 ∨ j = 7 ∨ j = 8 ∨ j = 9 ∨ j = 10 ∨ j = 11 ∨ j = 12 ∨ j = 13 ∨ j = 14 ∨ j = 15 ∨ j = 16 ∨ j = 17 by omega) with rfl | rfl | rfl | rfl | rfl | rfl | rfl | rfl | rfl | rfl | rfl | rfl | rfl | rfl | rfl | rfl | rfl | rfl <;> rfl) (Nat.le_of_ble_eq_true rfl) (Nat.le_of_ble_eq_true rfl) dX6_machine_20 (fun a H hP hD hS => ?_)
  have hP := va_P.swap hP
  have hD := va_D.swap hD
  have hP : va_P dD vwCl ([zX q g, zP cA (q 3) (zfm qq n), zA cI (q 4) 144 fO, zA cI (q 5) 12 to, zR (q 2) gR, zD (q 1) gD, (a, .inr (4, [.null, .null, .null, .null, .null, .null, .int 0, .int 0, .int 0, .int 0, .int 0, .int 0, .int 0, .int 0, .int 0, .int 0, .int 0, .int 0]))] ++ zPool cI q qq n S C) H := hP
  have hD : va_D A ([zX q g, zP cA (q 3) (zfm qq n), zA cI (q 4) 144 fO, zA cI (q 5) 12 to, zR (q 2) gR, zD (q 1) gD, (a, .inr (4, [.null, .null, .null, .null, .null, .null, .int 0, .int 0, .int 0, .int 0, .int 0, .int 0, .int 0, .int 0, .int 0, .int 0, .int 0, .int 0]))] ++ zPool cI q qq n S C) := hD
  refine W.widen (k := 1) (n := 18) (by decide) (by decide) ?_
  refine lv_dup hx hb dX6_machine_23 rfl ?_
  refine lv_aload_n hx hb dX6_machine_24 rfl (lv_at hl 1 rfl) ?_
  refine va_get (D := dD) (ci := 6) (v := .ref (q 2)) (C := RX6) (T := TX6) (N := 10) hx hb hts iX6 hown hK.1 hP 0 rfl rfl 1 (by decide) f19 (fun _ h9 => h9) rfl dX6_machine_25 ?_
  refine lv_aload_n hx hb dX6_machine_28 rfl (lv_at hl 1 rfl) ?_
  refine va_get (D := dD) (ci := 6) (v := .ref (q 1)) (C := RX6) (T := TX6) (N := 10) hx hb hts iX6 hown hK.1 hP 0 rfl rfl 0 (by decide) f10 (fun _ h9 => h9) rfl dX6_machine_29 ?_
  refine z_callI (R := rm_X6_machine_new) ⟨hx, hb, hml, hown, hts⟩ hK (c_X4_init l dD cI cA a (q 2) (q 1)) (cwI 2 hts gX6_machine_X4_init rfl rfl rfl (hts (.initialized RX4) (by decide +kernel)) (hts (.methodLink RX6 68 yX4_init) (by decide +kernel)) (hts (.instanceMethod yX4_init) (by decide +kernel)) rfl (by decide +kernel) ⟨(Nat.le_of_ble_eq_true rfl), (Nat.le_of_ble_eq_true rfl)⟩) (fun _ => 0) (fun u => zJ.ofP (X := [zX q g, zP cA (q 3) (zfm qq n), zA cI (q 4) 144 fO, zA cI (q 5) 12 to, zR (q 2) gR, zD (q 1) gD, (a, .inr (4, [.null, .null, .null, .null, .null, .null, .int 0, .int 0, .int 0, .int 0, .int 0, .int 0, .int 0, .int 0, .int 0, .int 0, .int 0, .int 0]))]) (wc := [(a, .inr (4, [.null, .null, .null, .null, .null, .null, .int 0, .int 0, .int 0, .int 0, .int 0, .int 0, .int 0, .int 0, .int 0, .int 0, .int 0, .int 0]))]) (wc1 := [zM u (q 2) (q 1) none gM0, zB u (fun _ => 0), zA cI (u 2) 12 (fun _ => 0), zA cI (u 3) 12 (fun _ => 0), zI u (fun _ => 0), zL (u 5) (fun _ => 0)]) (wr := [zX q g, zP cA (q 3) (zfm qq n), zA cI (q 4) 144 fO, zA cI (q 5) 12 to, zR (q 2) gR, zD (q 1) gD]) (w2 := [zX q g, zP cA (q 3) (zfm qq n), zA cI (q 4) 144 fO, zA cI (q 5) 12 to, zR (q 2) gR, zD (q 1) gD, zM u (q 2) (q 1) none gM0, zB u (fun _ => 0), zA cI (u 2) 12 (fun _ => 0), zA cI (u 3) 12 (fun _ => 0), zI u (fun _ => 0), zL (u 5) (fun _ => 0)]) hP hD hS hA [6] [0, 1, 2, 3, 4, 5] [0, 1, 2, 3, 4, 5, 6, 7, 8, 9, 10, 11] rfl rfl rfl rfl rfl rfl rfl) hS rfl hl.1 rfl (Nat.le_of_ble_eq_true rfl) dX6_machine_32 ⟨(Nat.le_of_ble_eq_true rfl), (Nat.le_of_ble_eq_true rfl)⟩ (fun u H locs hu hP7 hD7 hS => ?_)
  have hu : u 0 = a := hu
  subst hu
  have hP := hP7
  have hD := hD7
  have hP : va_P dD vwCl ([zX q g, zP cA (q 3) (zfm qq n), zA cI (q 4) 144 fO, zA cI (q 5) 12 to, zR (q 2) gR, zD (q 1) gD, zM u (q 2) (q 1) none gM0, zB u (fun _ => 0), zA cI (u 2) 12 (fun _ => 0), zA cI (u 3) 12 (fun _ => 0), zI u (fun _ => 0), zL (u 5) (fun _ => 0)] ++ zPool cI q qq n S C) H := hP
  have hD : va_D A ([zX q g, zP cA (q 3) (zfm qq n), zA cI (q 4) 144 fO, zA cI (q 5) 12 to, zR (q 2) gR, zD (q 1) gD, zM u (q 2) (q 1) none gM0, zB u (fun _ => 0), zA cI (u 2) 12 (fun _ => 0), zA cI (u 3) 12 (fun _ => 0), zI u (fun _ => 0), zL (u 5) (fun _ => 0)] ++ zPool cI q qq n S C) := hD
  refine W.widen (k := 6) (n := 58) (by decide) (by decide) ?_
  refine lv_astore_n (lv' := [(2, .ref (u 0)), (1, .int (g 5)), (0, .ref (q 0))]) hx hb dX6_machine_35 rfl hl (by decide) rfl (fun ls hl => ?_)
  refine lv_aload_n hx hb dX6_machine_36 rfl (lv_at hl 0 rfl) ?_
  refine va_getN (D := dD) (ci := 4) (v := .ref (u 4)) (C := RX4) (T := TX4) (N := 18) hx hb hts iX4 hown hK.1 hP 6 rfl rfl 3 (by decide) f71 (fun _ h9 => h9) rfl dX6_machine_37 ?_
  refine lv_aload_n hx hb dX6_machine_40 rfl (lv_at hl 2 rfl) ?_
  refine va_get (D := dD) (ci := 6) (v := .ref (q 2)) (C := RX6) (T := TX6) (N := 10) hx hb hts iX6 hown hK.1 hP 0 rfl rfl 1 (by decide) f19 (fun _ h9 => h9) rfl dX6_machine_41 ?_
  refine va_getN (D := dD) (ci := 5) (v := .int (gR 1)) (C := RX5) (T := TX5) (N := 4) hx hb hts iX5 hown hK.1 hP 4 rfl rfl 1 (by decide) f59 (fun _ h9 => h9) rfl dX6_machine_44 ?_
  refine lv_aload_n hx hb dX6_machine_47 rfl (lv_at hl 2 rfl) ?_
  refine va_get (D := dD) (ci := 6) (v := .int (g 7)) (C := RX6) (T := TX6) (N := 10) hx hb hts iX6 hown hK.1 hP 0 rfl rfl 7 (by decide) f75 (fun _ h9 => h9) rfl dX6_machine_48 ?_
  refine lv_aload_n hx hb dX6_machine_51 rfl (lv_at hl 2 rfl) ?_
  refine va_get (D := dD) (ci := 6) (v := .ref (q 1)) (C := RX6) (T := TX6) (N := 10) hx hb hts iX6 hown hK.1 hP 0 rfl rfl 0 (by decide) f10 (fun _ h9 => h9) rfl dX6_machine_52 ?_
  refine z_callVv ⟨hx, hb, hml, hown, hts⟩ hK (c_X2_begin l dD cI cA u (q 1) (fun _ => 0) gD (gR 1) (g 7) gI1 gD1 hbg) (cwV 3 hts gX6_machine_X2_begin rfl rfl rfl (by decide +kernel) ⟨(Nat.le_of_ble_eq_true rfl), (Nat.le_of_ble_eq_true rfl)⟩) (zJ.ofP (X := [zX q g, zP cA (q 3) (zfm qq n), zA cI (q 4) 144 fO, zA cI (q 5) 12 to, zR (q 2) gR, zD (q 1) gD, zM u (q 2) (q 1) none gM0, zB u (fun _ => 0), zA cI (u 2) 12 (fun _ => 0), zA cI (u 3) 12 (fun _ => 0), zI u (fun _ => 0), zL (u 5) (fun _ => 0)]) (wc := [zI u (fun _ => 0), zD (q 1) gD]) (wc1 := [zI u gI1, zD (q 1) gD1]) (wr := [zX q g, zP cA (q 3) (zfm qq n), zA cI (q 4) 144 fO, zA cI (q 5) 12 to, zR (q 2) gR, zM u (q 2) (q 1) none gM0, zB u (fun _ => 0), zA cI (u 2) 12 (fun _ => 0), zA cI (u 3) 12 (fun _ => 0), zL (u 5) (fun _ => 0)]) (w2 := [zX q g, zP cA (q 3) (zfm qq n), zA cI (q 4) 144 fO, zA cI (q 5) 12 to, zR (q 2) gR, zD (q 1) gD1, zM u (q 2) (q 1) none gM0, zB u (fun _ => 0), zA cI (u 2) 12 (fun _ => 0), zA cI (u 3) 12 (fun _ => 0), zI u gI1, zL (u 5) (fun _ => 0)]) hP hD hS hA [10, 5] [0, 1, 2, 3, 4, 6, 7, 8, 9, 11] [0, 1, 2, 3, 4, 11, 5, 6, 7, 8, 10, 9] rfl rfl rfl rfl rfl rfl rfl) hS 0 2 rfl rfl rfl rfl hl.1 rfl (Nat.le_of_ble_eq_true rfl) dX6_machine_55 ⟨(Nat.le_of_ble_eq_true rfl), (Nat.le_of_ble_eq_true rfl)⟩ (fun H locs hP hD hS => ?_)
  have hP : va_P dD vwCl ([zX q g, zP cA (q 3) (zfm qq n), zA cI (q 4) 144 fO, zA cI (q 5) 12 to, zR (q 2) gR, zD (q 1) gD1, zM u (q 2) (q 1) none gM0, zB u (fun _ => 0), zA cI (u 2) 12 (fun _ => 0), zA cI (u 3) 12 (fun _ => 0), zI u gI1, zL (u 5) (fun _ => 0)] ++ zPool cI q qq n S C) H := hP
  have hD : va_D A ([zX q g, zP cA (q 3) (zfm qq n), zA cI (q 4) 144 fO, zA cI (q 5) 12 to, zR (q 2) gR, zD (q 1) gD1, zM u (q 2) (q 1) none gM0, zB u (fun _ => 0), zA cI (u 2) 12 (fun _ => 0), zA cI (u 3) 12 (fun _ => 0), zI u gI1, zL (u 5) (fun _ => 0)] ++ zPool cI q qq n S C) := hD
  refine lv_aload_n hx hb dX6_machine_58 rfl (lv_at hl 2 rfl) ?_
  refine va_get (D := dD) (ci := 6) (v := .ref (q 3)) (C := RX6) (T := TX6) (N := 10) hx hb hts iX6 hown hK.1 hP 0 rfl rfl 2 (by decide) f25 (fun _ h9 => h9) rfl dX6_machine_59 ?_
  refine lv_iload_n hx hb dX6_machine_62 rfl (lv_at hl 1 rfl) ?_
  refine lv_aload_n hx hb dX6_machine_63 rfl (lv_at hl 0 rfl) ?_
  refine va_astq hx hb hK.1 hP hD hS 1 1 6 4 rfl rfl rfl rfl hgi dX6_machine_64 (fun H locs hP hD hS => ?_)
  rw [hgn, z_fm_succ] at hP hD
  have hP : va_P dD vwCl ([zX q g, zP cA (q 3) (zfm (va_up qq n u) (n + 1)), zA cI (q 4) 144 fO, zA cI (q 5) 12 to, zR (q 2) gR, zD (q 1) gD1, zM u (q 2) (q 1) none gM0, zB u (fun _ => 0), zA cI (u 2) 12 (fun _ => 0), zA cI (u 3) 12 (fun _ => 0), zI u gI1, zL (u 5) (fun _ => 0)] ++ zPool cI q qq n S C) H := hP
  have hD : va_D A ([zX q g, zP cA (q 3) (zfm (va_up qq n u) (n + 1)), zA cI (q 4) 144 fO, zA cI (q 5) 12 to, zR (q 2) gR, zD (q 1) gD1, zM u (q 2) (q 1) none gM0, zB u (fun _ => 0), zA cI (u 2) 12 (fun _ => 0), zA cI (u 3) 12 (fun _ => 0), zI u gI1, zL (u 5) (fun _ => 0)] ++ zPool cI q qq n S C) := hD
  refine lv_aload_n hx hb dX6_machine_65 rfl (lv_at hl 2 rfl) ?_
  refine lv_iload_n hx hb dX6_machine_66 rfl (lv_at hl 1 rfl) ?_
  refine lv_iconst (v := 1) hx hb dX6_machine_67 (by decide) ?_
  refine lv_iadd hx hb dX6_machine_68 ?_
  refine va_put (D := dD) (ci := 6) (v := .int (g 5 + 1)) (ty := .int) (C := RX6) (T := TX6) (N := 10) hx hb hts iX6 tyX6 tyX6_ok nmX6 hown hK.1 hP hD hS 0 rfl rfl 5 (by decide) f53 (fun _ h9 => h9) rfl (by decide +kernel) rfl rfl (Nat.le_of_ble_eq_true rfl) dX6_machine_69 (fun H locs hP hD hS => ?_)
  have hP : va_P dD vwCl ([zX q (va_up g 5 (g 5 + 1)), zP cA (q 3) (zfm (va_up qq n u) (n + 1)), zA cI (q 4) 144 fO, zA cI (q 5) 12 to, zR (q 2) gR, zD (q 1) gD1, zM u (q 2) (q 1) none gM0, zB u (fun _ => 0), zA cI (u 2) 12 (fun _ => 0), zA cI (u 3) 12 (fun _ => 0), zI u gI1, zL (u 5) (fun _ => 0)] ++ zPool cI q qq n S C) H := hP
  have hD : va_D A ([zX q (va_up g 5 (g 5 + 1)), zP cA (q 3) (zfm (va_up qq n u) (n + 1)), zA cI (q 4) 144 fO, zA cI (q 5) 12 to, zR (q 2) gR, zD (q 1) gD1, zM u (q 2) (q 1) none gM0, zB u (fun _ => 0), zA cI (u 2) 12 (fun _ => 0), zA cI (u 3) 12 (fun _ => 0), zI u gI1, zL (u 5) (fun _ => 0)] ++ zPool cI q qq n S C) := hD
  refine lv_iload_n hx hb dX6_machine_72 rfl (lv_at hl 1 rfl) ?_
  have hpm := z_pool_succ (cI := cI) (q := q) (qq := qq) (S := S) (C := C) [zX q (va_up g 5 (g 5 + 1)), zP cA (q 3) (zfm (va_up qq n u) (n + 1)), zA cI (q 4) 144 fO, zA cI (q 5) 12 to, zR (q 2) gR, zD (q 1) gD1] u gM0 (fun _ => 0) (fun _ => 0) (fun _ => 0) gI1 (fun _ => 0) hC
  exact hret u _ _ ls 73 dX6_machine_73 (z_permP hpm hP) (z_permD hpm hD) hS
