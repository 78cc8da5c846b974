/-! my own layer: worlds of explicit cells, contracts, calls -/
abbrev zF : Type := Nat → Int32
def zl {α β : Type} (x : α) (k : α → β) : β := k x
def zu (F : Nat → zF) (k i : Nat) (v : Int32) : Nat → zF := va_up F k (upd (F k) i v)
theorem z_lt {α β : Type} {x : α} {k : α → Option β} {r : β} (h : zl x k = some r) : ∃ y, y = x ∧ k y = some r := ⟨x, rfl, h⟩
theorem z_in {β : Type} {i : Int32} {n : Nat} {K : Option β} {r : β} (h : (if i < 0 ∨ n ≤ i.toNatClampNeg then none else K) = some r) : vp_in i n ∧ K = some r := by
  by_cases hb : i < 0 ∨ n ≤ i.toNatClampNeg
  · rw [if_pos hb] at h; cases h
  · rw [if_neg hb] at h; exact ⟨hb, h⟩
theorem z_nz {β : Type} {y : Int32} {K : Option β} {r : β} (h : (if y = 0 then none else K) = some r) : ¬ y = 0 ∧ K = some r := by
  by_cases hb : y = 0
  · rw [if_pos hb] at h; cases h
  · rw [if_neg hb] at h; exact ⟨hb, h⟩
theorem z_bd {α β : Type} {o : Option α} {f : α → Option β} {r : β} (h : o.bind f = some r) : ∃ u, o = some u ∧ f u = some r := by
  cases o with
  | none => cases h
  | some u => exact ⟨u, rfl, h⟩
theorem z_bl {β : Type} {v : Int32} {K : Option β} {r : β} (h : (if v = 0 ∨ v = 1 then K else none) = some r) : narrow .boolean (.int v) = .int v ∧ K = some r := by
  by_cases hb : v = 0 ∨ v = 1
  · rw [if_pos hb] at h
    refine ⟨?_, h⟩
    rcases hb with rfl | rfl <;> rfl
  · rw [if_neg hb] at h; cases h
theorem z_t {β : Type} {c : Prop} [Decidable c] {K1 K2 : Option β} {r : β} (hc : c) (h : (if c then K1 else K2) = some r) : K1 = some r := (if_pos hc).symm.trans h
theorem z_f {β : Type} {c : Prop} [Decidable c] {K1 K2 : Option β} {r : β} (hc : ¬ c) (h : (if c then K1 else K2) = some r) : K2 = some r := (if_neg hc).symm.trans h
abbrev zT (cI cA : ClassId) : List (ClassId × FieldType) := [(cI, .int), (cA, .object RX4)]
def zN : List Cond := [.fieldLinkNest "MeshField" 46 "MeshField$Draws" "state" "I" "MeshField", .fieldLinkNest "MeshField" 56 "MeshField$Rules" "few" "I" "MeshField", .fieldLinkNest "MeshField$Machine" 119 "MeshField$Rules" "few" "I" "MeshField", .fieldLinkNest "MeshField" 59 "MeshField$Rules" "low" "I" "MeshField", .fieldLinkNest "MeshField$Machine" 78 "MeshField$Rules" "low" "I" "MeshField", .fieldLinkNest "MeshField" 62 "MeshField$Rules" "high" "I" "MeshField", .fieldLinkNest "MeshField$Machine" 166 "MeshField$Rules" "high" "I" "MeshField", .fieldLinkNest "MeshField" 65 "MeshField$Rules" "wait" "I" "MeshField", .fieldLinkNest "MeshField$Machine" 148 "MeshField$Rules" "wait" "I" "MeshField", .fieldLinkNest "MeshField$Machine" 68 "MeshField$Basis" "rank" "I" "MeshField", .fieldLinkNest "MeshField" 113 "MeshField$Basis" "rank" "I" "MeshField", .fieldLinkNest "MeshField$Machine" 75 "MeshField$Interval" "span" "I" "MeshField", .fieldLinkNest "MeshField$Machine" 163 "MeshField$Interval" "began" "I" "MeshField", .fieldLinkNest "MeshField$Machine" 113 "MeshField$Interval" "tellsAt" "I" "MeshField", .fieldLinkNest "MeshField$Machine" 116 "MeshField$Interval" "heard" "I" "MeshField", .fieldLinkNest "MeshField$Machine" 125 "MeshField$Letter" "kind" "I" "MeshField", .fieldLinkNest "MeshField$Machine" 128 "MeshField$Letter" "number" "I" "MeshField", .fieldLinkNest "MeshField$Machine" 129 "MeshField$Letter" "rank" "I" "MeshField", .fieldLinkNest "MeshField$Machine" 130 "MeshField$Letter" "pieces" "I" "MeshField", .fieldLinkNest "MeshField$Machine" 131 "MeshField$Letter" "programSum" "I" "MeshField", .fieldLinkNest "MeshField$Basis" 36 "MeshField$Letter" "mask" "I" "MeshField", .fieldLinkNest "MeshField$Machine" 151 "MeshField$Letter" "mask" "I" "MeshField", .fieldLinkNest "MeshField$Basis" 41 "MeshField$Letter" "mixed" "I" "MeshField", .fieldLinkNest "MeshField$Machine" 154 "MeshField$Letter" "mixed" "I" "MeshField", .fieldLinkNest "MeshField$Machine" 134 "MeshField$Letter" "turnNumber" "I" "MeshField", .fieldLinkNest "MeshField$Machine" 135 "MeshField$Letter" "turnTick" "I" "MeshField", .fieldLinkNest "MeshField" 109 "MeshField$Machine" "basis" "LMeshField$Basis;" "MeshField", .fieldLinkNest "MeshField" 71 "MeshField$Machine" "interval" "LMeshField$Interval;" "MeshField", .fieldLinkNest "MeshField" 176 "MeshField$Machine" "letter" "LMeshField$Letter;" "MeshField", .fieldLinkNest "MeshField" 172 "MeshField$Machine" "caught" "LMeshField$Letter;" "MeshField", .fieldLinkNest "MeshField" 95 "MeshField$Machine" "number" "I" "MeshField", .fieldLinkNest "MeshField" 123 "MeshField$Machine" "pieces" "I" "MeshField", .fieldLinkNest "MeshField" 159 "MeshField$Machine" "keptSum" "I" "MeshField", .fieldLinkNest "MeshField" 218 "MeshField$Machine" "runs" "I" "MeshField", .fieldLinkNest "MeshField" 212 "MeshField$Machine" "tellsSent" "I" "MeshField", .fieldLinkNest "MeshField" 215 "MeshField$Machine" "mixesSent" "I" "MeshField", .fieldLinkNest "MeshField" 192 "MeshField$Machine" "spoilt" "I" "MeshField", .fieldLinkNest "MeshField" 198 "MeshField$Machine" "lost" "I" "MeshField", .methodLinkNest "MeshField" 9 ⟨"MeshField$Draws", "<init>", "()V"⟩ "MeshField", .methodLinkNest "MeshField" 18 ⟨"MeshField$Rules", "<init>", "()V"⟩ "MeshField", .methodLinkNest "MeshField$Machine" 11 ⟨"MeshField$Basis", "<init>", "()V"⟩ "MeshField", .methodLinkNest "MeshField$Machine" 20 ⟨"MeshField$Interval", "<init>", "()V"⟩ "MeshField", .methodLinkNest "MeshField$Machine" 27 ⟨"MeshField$Letter", "<init>", "()V"⟩ "MeshField"]
def zNest : Cond → Bool
  | .fieldLinkNest _ _ _ _ _ _ => true
  | .methodLinkNest _ _ _ _ => true
  | _ => false
theorem zN_ok : ∀ w ∈ zN, zNest w = true := by decide +kernel
theorem zNw.warm {w : Cond} (h : zNest w = true) {s U : State} (hW : s.WarmedH U.vm) (hZ : va_Nw w s) : va_Nw w U := by
  cases w with
  | fieldLinkNest a i b n d h' => exact va_Nw.warmF hW hZ
  | methodLinkNest a i x h' => exact va_Nw.warmM hW hZ
  | _ => exact absurd h Bool.false_ne_true
theorem zNw.call {w : Cond} (h : zNest w = true) {U V : State} (e : U.vm = V.vm) (hZ : va_Nw w U) : va_Nw w V := by
  cases w with
  | fieldLinkNest a i b n d h' => exact va_Nw.same rfl e hZ
  | methodLinkNest a i x h' => exact va_Nw.same rfl e hZ
  | _ => exact absurd h Bool.false_ne_true
def zK (dD : va_G) (cI cA : ClassId) (U : State) : Prop := va_K dD vwCl (zT cI cA) U ∧ (∀ w ∈ zN, va_Nw w U) ∧ va_AO RX4 U
theorem zK.warm {dD : va_G} {cI cA : ClassId} {s U : State} (hW : s.WarmedH U.vm) (h : zK dD cI cA s) : zK dD cI cA U := ⟨va_K.moved hW.alike h.1, fun w hw => zNw.warm (zN_ok w hw) hW (h.2.1 w hw), va_AO.moved hW.alike h.2.2⟩
theorem zK.call {dD : va_G} {cI cA : ClassId} {U V : State} (e : U.vm = V.vm) (h : zK dD cI cA U) : zK dD cI cA V := ⟨va_K.moved (e ▸ Vm.Alike.refl U.vm) h.1, fun w hw => zNw.call (zN_ok w hw) e (h.2.1 w hw), va_AO.moved (e ▸ Vm.Alike.refl U.vm) h.2.2⟩
theorem zK.nw {dD : va_G} {cI cA : ClassId} {U : State} (h : zK dD cI cA U) {w : Cond} (hw : w ∈ zN) {A : Array Value} : w.before A U = true := by
  have h1 := zN_ok w hw
  have h2 := h.2.1 w hw
  cases w with
  | fieldLinkNest a i b n d h' => exact va_Nw.use rfl h2
  | methodLinkNest a i x h' => exact va_Nw.use rfl h2
  | _ => exact absurd h1 Bool.false_ne_true
def zPre (dD : va_G) (cI cA : ClassId) (ws : va_W) (sz : Nat) (U : State) : Prop := U.heap.size = sz ∧ va_P dD vwCl ws U.heap ∧ zK dD cI cA U ∧ va_D (fun _ => True) ws
def zPost (dD : va_G) (ws ws' : va_W) (sz : Nat) (t : State) : Prop := va_P dD vwCl ws' t.heap ∧ va_D (va_A ws sz) ws'
theorem zPre.blind {dD : va_G} {cI cA : ClassId} {ws : va_W} {sz : Nat} {av : List Value} : FrameBlind (va_Pc av (zPre dD cI cA ws sz)) := fun a U g mk q => by
  obtain ⟨q0, q1, qP, qK, qD⟩ := q
  exact ⟨q0, q1, qP, zK.call (U := U) (V := U.calling g mk a) rfl qK, qD⟩
/-- the contract of a method that answers an int (or a boolean), and makes nothing -/
def zMi (l : Launch) (y : MethodName) (wsy : List Cond) (rm : Room) (dD : va_G) (cI cA : ClassId) (av : List Value) (ws ws1 : va_W) (ans : Int32) : Prop := ∀ sz : Nat, Met l y wsy rm (va_Pc av (zPre dD cI cA ws sz)) (va_Qi (fun (r : Int32) (_ : Unit) => r = ans) (fun _ t => zPost dD ws ws1 sz t) (va_A ws sz)) 0 0 (va_A ws sz)
def zMv (l : Launch) (y : MethodName) (wsy : List Cond) (rm : Room) (dD : va_G) (cI cA : ClassId) (av : List Value) (ws ws1 : va_W) : Prop := ∀ sz : Nat, Met l y wsy rm (va_Pc av (zPre dD cI cA ws sz)) (va_Qv (fun (_ : Unit) => True) (fun _ t => zPost dD ws ws1 sz t) (va_A ws sz)) 0 0 (va_A ws sz)
theorem zMi_of {l : Launch} {y : MethodName} {wsy wsy' : List Cond} {rm : Room} {dD : va_G} {cI cA : ClassId} {av : List Value} {ws ws1 : va_W} {ans : Int32} {cc : ByteArray} {maxL : Nat} {rt : FieldType} (hy : plainName y.cls = true) (hw : wsy = Cond.code y cc maxL (some rt) :: wsy') (hnl : (lg_sl av).length ≤ maxL)
    (body : ∀ (p : Program) (e : Env) (s : State) (m : MethodId) (args : Array Value) (below : List Frame) (meth : Method) (c : Code) (A : Nat → Prop) (Q : State → Prop) (ls : Array Slot), p.tables.exec = Jvm.exec → c.code = cc → c.maxLocals = maxL → s.vm.findClass y.cls = some m.cls → (∀ w ∈ wsy, w.before args s = true) → zK dD cI cA s → (∀ q, s.heap.size ≤ q → A q) → va_P dD vwCl ws s.heap → va_D A ws → lv_has ls maxL (lv_args 0 av) →
      (∀ (H : Heap) (locs : List Loc) (ls : Array Slot) (pc : Nat), decode cc pc = .ok (.ireturn, 1) → narrow rt (.int ans) = .int ans → va_P dD vwCl ws1 H → va_D A ws1 → va_S A s.heap H locs → W p l e rm s m args below meth c H locs 0 0 Q (F0 m pc ls [.int ans])) →
      W p l e rm s m args below meth c s.heap [] 0 0 Q (F0 m 0 ls [])) : zMi l y wsy rm dD cI cA av ws ws1 ans := by
  intro sz
  refine Met.ofW (cc := cc) (maxL := maxL) (ret := some rt) hy hw ?_
  intro p e s m args below meth c s₁ B hml hv
  obtain ⟨rfl, hsz, hP, hK, hD0⟩ := hv
  subst hsz
  have hl := lv_entry av (n := maxL) hnl
  rw [lg_entry_eq]
  refine body p e s m _ below meth c (va_A ws s.heap.size) _ _ B.exec B.bytes hml (findClass_of_methodNamed B.named) (atoms_spec (ws := wsy) B.pre) hK (fun q h => Or.inr h) hP hD0.self hl ?_
  intro H locs ls pc hd hn hP hD hS
  exact W.zret B.exec B.bytes B.returns hn (fun t ht hW => ⟨⟨ans, (), rfl, rfl, by rw [ht]; exact hP, hD⟩, hS.F ht⟩) hS.2.2 hd B.notSynchronized
theorem zMv_of {l : Launch} {y : MethodName} {wsy wsy' : List Cond} {rm : Room} {dD : va_G} {cI cA : ClassId} {av : List Value} {ws ws1 : va_W} {cc : ByteArray} {maxL : Nat} (hy : plainName y.cls = true) (hw : wsy = Cond.code y cc maxL none :: wsy') (hnl : (lg_sl av).length ≤ maxL)
    (body : ∀ (p : Program) (e : Env) (s : State) (m : MethodId) (args : Array Value) (below : List Frame) (meth : Method) (c : Code) (A : Nat → Prop) (Q : State → Prop) (ls : Array Slot), p.tables.exec = Jvm.exec → c.code = cc → c.maxLocals = maxL → s.vm.findClass y.cls = some m.cls → (∀ w ∈ wsy, w.before args s = true) → zK dD cI cA s → (∀ q, s.heap.size ≤ q → A q) → va_P dD vwCl ws s.heap → va_D A ws → lv_has ls maxL (lv_args 0 av) →
      (∀ (H : Heap) (locs : List Loc) (ls : Array Slot) (pc : Nat), decode cc pc = .ok (.return_, 1) → va_P dD vwCl ws1 H → va_D A ws1 → va_S A s.heap H locs → W p l e rm s m args below meth c H locs 0 0 Q (F0 m pc ls [])) →
      W p l e rm s m args below meth c s.heap [] 0 0 Q (F0 m 0 ls [])) : zMv l y wsy rm dD cI cA av ws ws1 := by
  intro sz
  refine Met.ofW (cc := cc) (maxL := maxL) (ret := none) hy hw ?_
  intro p e s m args below meth c s₁ B hml hv
  obtain ⟨rfl, hsz, hP, hK, hD0⟩ := hv
  subst hsz
  have hl := lv_entry av (n := maxL) hnl
  rw [lg_entry_eq]
  refine body p e s m _ below meth c (va_A ws s.heap.size) _ _ B.exec B.bytes hml (findClass_of_methodNamed B.named) (atoms_spec (ws := wsy) B.pre) hK (fun q h => Or.inr h) hP hD0.self hl ?_
  intro H locs ls pc hd hP hD hS
  exact W.vret B.exec B.bytes B.returns (fun t ht hW => ⟨⟨(), rfl, trivial, by rw [ht]; exact hP, hD⟩, hS.F ht⟩) hS.2.2 hd B.notSynchronized
/-- a callee's cells wc out of a world, and the world w2 behind it -/
def zJ (dD : va_G) (A : Nat → Prop) (wc wc1 w2 : va_W) (H : Heap) : Prop := va_P dD vwCl wc H ∧ va_D A wc ∧ (∀ q, va_A wc H.size q → A q) ∧ ∀ H1 : Heap, (∀ q : Nat, q < H.size → ¬ va_A wc H.size q → H1[q]? = H[q]?) → va_P dD vwCl wc1 H1 → va_D (va_A wc H.size) wc1 → va_P dD vwCl w2 H1 ∧ va_D A w2
theorem z_map_fm {ws wc : va_W} : ∀ {is : List Nat} {wc : va_W}, is.map (fun i => ws[i]?) = wc.map some → is.filterMap (fun i => ws[i]?) = wc
  | [], [], _ => rfl
  | [], _ :: _, h => by cases h
  | _ :: _, [], h => by cases h
  | i :: is, c :: wc, h => by
    simp only [List.map_cons, List.cons.injEq] at h
    rw [List.filterMap_cons, h.1]
    simp [z_map_fm (wc := wc) h.2]
theorem zJ.of {dD : va_G} {A : Nat → Prop} {ws wc wc1 wr w2 : va_W} {H0 H : Heap} {locs : List Loc} (hP : va_P dD vwCl ws H) (hD : va_D A ws) (hS : va_S A H0 H locs) (hA : ∀ q, H0.size ≤ q → A q) (isC isR idx : List Nat) (hC : isC.map (fun i => ws[i]?) = wc.map some) (hR : isR.map (fun i => ws[i]?) = wr.map some) (hnC : va_nd isC = true) (hnR : va_nd isR = true) (hdis : (isR.all fun i => !isC.contains i) = true) (h2 : idx.map (fun i => (wr ++ wc1)[i]?) = w2.map some) (hn2 : va_nd idx = true) : zJ dD A wc wc1 w2 H := by
  refine ⟨hP.sub isC (z_map_fm (wc := wc) hC), hD.sub isC hnC hC, va_free hD hS hA isC hC, fun H1 hk hP1 hD1 => ?_⟩
  have hdis' : ∀ i ∈ isR, i ∉ isC := fun i hi hc => by
    have := List.all_eq_true.mp hdis i hi
    rw [List.contains_iff_mem.mpr hc] at this
    cases this
  obtain ⟨hP2, hD2⟩ := va_join hP hD isC isR hC hR hnR hdis' hk (va_free hD hS hA isC hC) hP1 hD1
  exact ⟨hP2.sub idx (z_map_fm (wc := w2) h2), hD2.sub idx hn2 h2⟩
section ZC
variable {p : Program} {l : Launch} {e : Env} {R : Room} {s : State} {m : MethodId} {args : Array Value} {below : List Frame} {meth : Method} {c : Code} {H : Heap} {locs : List Loc} {cells slots : Nat} {Q : State → Prop}
variable {y : MethodName} {bytes cc : ByteArray} {maxL nL n index pc : Nat} {ret : Option FieldType} {wsy Ts : List Cond} {rm : Room} {own C : String} {b : Addr} {As rest st0 : List Value} {ls : Array Slot} {A : Nat → Prop} {dD : va_G} {cI cA : ClassId} {wc wc1 w2 : va_W} {ans : Int32}
theorem z_callVi (S : CallFix p m c cc nL s args Ts own) (hK : zK dD cI cA s) (hM : zMi l y wsy rm dD cI cA (.ref b :: As) wc wc1 ans) (cw : CallW R s args own C index y bytes maxL ret wsy rm 0 0 n) (hJ : zJ dD A wc wc1 w2 H) (hS : va_S A s.heap H locs) (q0 ci : Nat) {vc : vw_C} {fs : List Value} (hci : vwCl[ci]? = some vc) (hq0 : wc[q0]? = some (b, .inr (ci, fs))) (hCn : vc.1 = C) (hn : As.length = n) (hlsz : ls.size = nL) (hst : st0 = As.reverse ++ .ref b :: rest) (hrm : (rest.map fun v => v.category).sum ≤ 8) (hdg : decode cc pc = .ok (.invokevirtual index, 3)) (hcs : cells ≤ R.cells ∧ slots ≤ R.slots)
    (kk : ∀ (H1 : Heap) (locs1 : List Loc), va_P dD vwCl w2 H1 → va_D A w2 → va_S A s.heap H1 locs1 → W p l e R s m args below meth c H1 locs1 cells slots Q (F0 m (pc + 3) ls (.int ans :: rest))) : W p l e R s m args below meth c H locs cells slots Q (F0 m pc ls st0) := by
  obtain ⟨hPc, hDc, hF, hj⟩ := hJ
  subst hCn
  refine va_calli (va_runV (As := As) (rest := rest) S (hM H.size) cw ⟨zPre.blind, va_recv hK.1 hPc hci hq0, fun U hU hW => ⟨rfl, by rw [hU], by rw [hU]; exact hPc, hK.warm hW, hDc.weaken (fun _ _ _ _ => trivial)⟩⟩ rfl hn hlsz hst (lv_room hrm) hdg ⟨hcs.1, hcs.2⟩) hS (fun q _ h => hF q h) hF (fun r u t H1 locs1 ht hvm hw hB hz1 hk1 hS1 => ?_)
  obtain ⟨hP1, hD1⟩ := hB
  rw [ht] at hP1
  obtain ⟨hP2, hD2⟩ := hj H1 hk1 hP1 hD1
  subst hw
  exact kk H1 locs1 hP2 hD2 hS1
theorem z_callVv (S : CallFix p m c cc nL s args Ts own) (hK : zK dD cI cA s) (hM : zMv l y wsy rm dD cI cA (.ref b :: As) wc wc1) (cw : CallW R s args own C index y bytes maxL ret wsy rm 0 0 n) (hJ : zJ dD A wc wc1 w2 H) (hS : va_S A s.heap H locs) (q0 ci : Nat) {vc : vw_C} {fs : List Value} (hci : vwCl[ci]? = some vc) (hq0 : wc[q0]? = some (b, .inr (ci, fs))) (hCn : vc.1 = C) (hn : As.length = n) (hlsz : ls.size = nL) (hst : st0 = As.reverse ++ .ref b :: rest) (hrm : (rest.map fun v => v.category).sum ≤ 8) (hdg : decode cc pc = .ok (.invokevirtual index, 3)) (hcs : cells ≤ R.cells ∧ slots ≤ R.slots)
    (kk : ∀ (H1 : Heap) (locs1 : List Loc), va_P dD vwCl w2 H1 → va_D A w2 → va_S A s.heap H1 locs1 → W p l e R s m args below meth c H1 locs1 cells slots Q (F0 m (pc + 3) ls rest)) : W p l e R s m args below meth c H locs cells slots Q (F0 m pc ls st0) := by
  obtain ⟨hPc, hDc, hF, hj⟩ := hJ
  subst hCn
  refine va_callv (va_runV (As := As) (rest := rest) S (hM H.size) cw ⟨zPre.blind, va_recv hK.1 hPc hci hq0, fun U hU hW => ⟨rfl, by rw [hU], by rw [hU]; exact hPc, hK.warm hW, hDc.weaken (fun _ _ _ _ => trivial)⟩⟩ rfl hn hlsz hst (lv_room hrm) hdg ⟨hcs.1, hcs.2⟩) hS (fun q _ h => hF q h) hF (fun u t H1 locs1 ht hvm hw hB hz1 hk1 hS1 => ?_)
  obtain ⟨hP1, hD1⟩ := hB
  rw [ht] at hP1
  obtain ⟨hP2, hD2⟩ := hj H1 hk1 hP1 hD1
  exact kk H1 locs1 hP2 hD2 hS1
theorem z_callSi (S : CallFix p m c cc nL s args Ts own) (hK : zK dD cI cA s) (hM : zMi l y wsy rm dD cI cA As wc wc1 ans) (cw : CallB R s args own index y bytes maxL ret wsy rm 0 0 n ∧ (Cond.static y).before args s = true) (hJ : zJ dD A wc wc1 w2 H) (hS : va_S A s.heap H locs) (hn : As.length = n) (hlsz : ls.size = nL) (hst : st0 = As.reverse ++ rest) (hrm : (rest.map fun v => v.category).sum ≤ 8) (hdg : decode cc pc = .ok (.invokestatic index, 3)) (hcs : cells ≤ R.cells ∧ slots ≤ R.slots)
    (kk : ∀ (H1 : Heap) (locs1 : List Loc), va_P dD vwCl w2 H1 → va_D A w2 → va_S A s.heap H1 locs1 → W p l e R s m args below meth c H1 locs1 cells slots Q (F0 m (pc + 3) ls (.int ans :: rest))) : W p l e R s m args below meth c H locs cells slots Q (F0 m pc ls st0) := by
  obtain ⟨hPc, hDc, hF, hj⟩ := hJ
  refine va_calli (va_runS (As := As) (rest := rest) S (hM H.size) cw ⟨zPre.blind, fun U hU hW => ⟨rfl, by rw [hU], by rw [hU]; exact hPc, hK.warm hW, hDc.weaken (fun _ _ _ _ => trivial)⟩⟩ rfl hn hlsz hst (lv_room hrm) hdg ⟨hcs.1, hcs.2⟩) hS (fun q _ h => hF q h) hF (fun r u t H1 locs1 ht hvm hw hB hz1 hk1 hS1 => ?_)
  obtain ⟨hP1, hD1⟩ := hB
  rw [ht] at hP1
  obtain ⟨hP2, hD2⟩ := hj H1 hk1 hP1 hD1
  subst hw
  exact kk H1 locs1 hP2 hD2 hS1
theorem z_callSv (S : CallFix p m c cc nL s args Ts own) (hK : zK dD cI cA s) (hM : zMv l y wsy rm dD cI cA As wc wc1) (cw : CallB R s args own index y bytes maxL ret wsy rm 0 0 n ∧ (Cond.static y).before args s = true) (hJ : zJ dD A wc wc1 w2 H) (hS : va_S A s.heap H locs) (hn : As.length = n) (hlsz : ls.size = nL) (hst : st0 = As.reverse ++ rest) (hrm : (rest.map fun v => v.category).sum ≤ 8) (hdg : decode cc pc = .ok (.invokestatic index, 3)) (hcs : cells ≤ R.cells ∧ slots ≤ R.slots)
    (kk : ∀ (H1 : Heap) (locs1 : List Loc), va_P dD vwCl w2 H1 → va_D A w2 → va_S A s.heap H1 locs1 → W p l e R s m args below meth c H1 locs1 cells slots Q (F0 m (pc + 3) ls rest)) : W p l e R s m args below meth c H locs cells slots Q (F0 m pc ls st0) := by
  obtain ⟨hPc, hDc, hF, hj⟩ := hJ
  refine va_callv (va_runS (As := As) (rest := rest) S (hM H.size) cw ⟨zPre.blind, fun U hU hW => ⟨rfl, by rw [hU], by rw [hU]; exact hPc, hK.warm hW, hDc.weaken (fun _ _ _ _ => trivial)⟩⟩ rfl hn hlsz hst (lv_room hrm) hdg ⟨hcs.1, hcs.2⟩) hS (fun q _ h => hF q h) hF (fun u t H1 locs1 ht hvm hw hB hz1 hk1 hS1 => ?_)
  obtain ⟨hP1, hD1⟩ := hB
  rw [ht] at hP1
  obtain ⟨hP2, hD2⟩ := hj H1 hk1 hP1 hD1
  exact kk H1 locs1 hP2 hD2 hS1
end ZC
/-! the cells of the system -/
def zB (q : Nat → Nat) (g : zF) : Nat × va_E := (q 1, .inr (0, [.ref (q 2), .ref (q 3), .int (g 2)]))
def zI (q : Nat → Nat) (g : zF) : Nat × va_E := (q 4, .inr (2, [.int (g 0), .int (g 1), .int (g 2), .int (g 3)]))
def zL (a : Nat) (g : zF) : Nat × va_E := (a, .inr (3, [.int (g 0), .int (g 1), .int (g 2), .int (g 3), .int (g 4), .int (g 5), .int (g 6), .int (g 7), .int (g 8)]))
def zM (q : Nat → Nat) (aR aD : Nat) (ca : Option Nat) (g : zF) : Nat × va_E := (q 0, .inr (4, [.ref aR, .ref aD, .ref (q 1), .ref (q 4), .ref (q 5), va_rf ca, .int (g 6), .int (g 7), .int (g 8), .int (g 9), .int (g 10), .int (g 11), .int (g 12), .int (g 13), .int (g 14), .int (g 15), .int (g 16), .int (g 17)]))
def zD (a : Nat) (g : zF) : Nat × va_E := (a, .inr (1, [.int (g 0)]))
def zR (a : Nat) (g : zF) : Nat × va_E := (a, .inr (5, [.int (g 0), .int (g 1), .int (g 2), .int (g 3)]))
def zA (cI : ClassId) (a n : Nat) (f : zF) : Nat × va_E := (a, .inl (cI, n, .inl f))
def zX (q : Nat → Nat) (g : zF) : Nat × va_E := (q 0, .inr (6, [.ref (q 1), .ref (q 2), .ref (q 3), .ref (q 4), .ref (q 5), .int (g 5), .int (g 6), .int (g 7), .int (g 8), .int (g 9)]))
def zZ (q : Nat → Nat) (g : zF) : Nat × va_E := (q 0, .inr (7, [.int (g 0), .int (g 1), .int (g 2), .int (g 3), .int (g 4), .int (g 5), .int (g 6), .int (g 7), .int (g 8), .ref (q 9), .ref (q 10), .ref (q 11), .ref (q 12), .ref (q 13), .ref (q 14), .ref (q 15), .ref (q 16), .ref (q 17), .ref (q 18), .ref (q 19), .ref (q 20), .ref (q 21), .ref (q 22), .ref (q 23), .ref (q 24), .ref (q 25), .ref (q 26), .ref (q 27), .ref (q 28), .int (g 29), .int (g 30), .ref (q 31), .ref (q 32), .ref (q 33), .ref (q 34), .ref (q 35), .ref (q 36), .ref (q 37), .ref (q 38), .ref (q 39), .ref (q 40)]))

section ZTOP
variable {p : Program} {l : Launch} {e : Env} {R : Room} {s : State} {m : MethodId} {args : Array Value} {below : List Frame} {meth : Method} {c : Code} {H : Heap} {locs : List Loc} {cells slots pc : Nat} {Q : State → Prop} {ls : Array Slot} {rest : List Value}
theorem z_top {x y : Int32} (h : y = x) (k : W p l e R s m args below meth c H locs cells slots Q (F0 m pc ls (.int y :: rest))) : W p l e R s m args below meth c H locs cells slots Q (F0 m pc ls (.int x :: rest)) := h ▸ k
end ZTOP
def zShl (a b : Int32) : Int32 := a <<< (b &&& 31)
def zShr (a b : Int32) : Int32 := a >>> (b &&& 31)
def zUsr (a b : Int32) : Int32 := (a.toUInt32 >>> (b.toUInt32 &&& Int32.toUInt32 31)).toInt32
def zMin (x y : Int32) : Int32 := if y < x then y else x
def zRm (a b : Int32) : Int32 := a - a / b * b
def zb0 {β : Type} (o : Option Unit) (k : Option β) : Option β := match o with | none => none | some _ => k
theorem z_b0 {β : Type} {o : Option Unit} {k : Option β} {r : β} (h : zb0 o k = some r) : o = some () ∧ k = some r := by
  cases o with
  | none => cases h
  | some u => exact ⟨rfl, h⟩
def zb1 {α0 β : Type} (o : Option (α0)) (k : α0 → Option β) : Option β := match o with | none => none | some u => k u
theorem z_b1 {α0 β : Type} {o : Option (α0)} {k : α0 → Option β} {r : β} (h : zb1 o k = some r) : ∃ x0, o = some x0 ∧ k x0 = some r := by
  cases o with
  | none => cases h
  | some u => exact ⟨u, rfl, h⟩
def zb2 {α0 α1 β : Type} (o : Option (α0 × α1)) (k : α0 → α1 → Option β) : Option β := match o with | none => none | some u => k u.1 u.2
theorem z_b2 {α0 α1 β : Type} {o : Option (α0 × α1)} {k : α0 → α1 → Option β} {r : β} (h : zb2 o k = some r) : ∃ x0 x1, o = some (x0, x1) ∧ k x0 x1 = some r := by
  cases o with
  | none => cases h
  | some u => exact ⟨u.1, u.2, rfl, h⟩
def zb3 {α0 α1 α2 β : Type} (o : Option (α0 × α1 × α2)) (k : α0 → α1 → α2 → Option β) : Option β := match o with | none => none | some u => k u.1 u.2.1 u.2.2
theorem z_b3 {α0 α1 α2 β : Type} {o : Option (α0 × α1 × α2)} {k : α0 → α1 → α2 → Option β} {r : β} (h : zb3 o k = some r) : ∃ x0 x1 x2, o = some (x0, x1, x2) ∧ k x0 x1 x2 = some r := by
  cases o with
  | none => cases h
  | some u => exact ⟨u.1, u.2.1, u.2.2, rfl, h⟩
def zb4 {α0 α1 α2 α3 β : Type} (o : Option (α0 × α1 × α2 × α3)) (k : α0 → α1 → α2 → α3 → Option β) : Option β := match o with | none => none | some u => k u.1 u.2.1 u.2.2.1 u.2.2.2
theorem z_b4 {α0 α1 α2 α3 β : Type} {o : Option (α0 × α1 × α2 × α3)} {k : α0 → α1 → α2 → α3 → Option β} {r : β} (h : zb4 o k = some r) : ∃ x0 x1 x2 x3, o = some (x0, x1, x2, x3) ∧ k x0 x1 x2 x3 = some r := by
  cases o with
  | none => cases h
  | some u => exact ⟨u.1, u.2.1, u.2.2.1, u.2.2.2, rfl, h⟩
def zb5 {α0 α1 α2 α3 α4 β : Type} (o : Option (α0 × α1 × α2 × α3 × α4)) (k : α0 → α1 → α2 → α3 → α4 → Option β) : Option β := match o with | none => none | some u => k u.1 u.2.1 u.2.2.1 u.2.2.2.1 u.2.2.2.2
theorem z_b5 {α0 α1 α2 α3 α4 β : Type} {o : Option (α0 × α1 × α2 × α3 × α4)} {k : α0 → α1 → α2 → α3 → α4 → Option β} {r : β} (h : zb5 o k = some r) : ∃ x0 x1 x2 x3 x4, o = some (x0, x1, x2, x3, x4) ∧ k x0 x1 x2 x3 x4 = some r := by
  cases o with
  | none => cases h
  | some u => exact ⟨u.1, u.2.1, u.2.2.1, u.2.2.2.1, u.2.2.2.2, rfl, h⟩
def zb6 {α0 α1 α2 α3 α4 α5 β : Type} (o : Option (α0 × α1 × α2 × α3 × α4 × α5)) (k : α0 → α1 → α2 → α3 → α4 → α5 → Option β) : Option β := match o with | none => none | some u => k u.1 u.2.1 u.2.2.1 u.2.2.2.1 u.2.2.2.2.1 u.2.2.2.2.2
theorem z_b6 {α0 α1 α2 α3 α4 α5 β : Type} {o : Option (α0 × α1 × α2 × α3 × α4 × α5)} {k : α0 → α1 → α2 → α3 → α4 → α5 → Option β} {r : β} (h : zb6 o k = some r) : ∃ x0 x1 x2 x3 x4 x5, o = some (x0, x1, x2, x3, x4, x5) ∧ k x0 x1 x2 x3 x4 x5 = some r := by
  cases o with
  | none => cases h
  | some u => exact ⟨u.1, u.2.1, u.2.2.1, u.2.2.2.1, u.2.2.2.2.1, u.2.2.2.2.2, rfl, h⟩
def zb7 {α0 α1 α2 α3 α4 α5 α6 β : Type} (o : Option (α0 × α1 × α2 × α3 × α4 × α5 × α6)) (k : α0 → α1 → α2 → α3 → α4 → α5 → α6 → Option β) : Option β := match o with | none => none | some u => k u.1 u.2.1 u.2.2.1 u.2.2.2.1 u.2.2.2.2.1 u.2.2.2.2.2.1 u.2.2.2.2.2.2
theorem z_b7 {α0 α1 α2 α3 α4 α5 α6 β : Type} {o : Option (α0 × α1 × α2 × α3 × α4 × α5 × α6)} {k : α0 → α1 → α2 → α3 → α4 → α5 → α6 → Option β} {r : β} (h : zb7 o k = some r) : ∃ x0 x1 x2 x3 x4 x5 x6, o = some (x0, x1, x2, x3, x4, x5, x6) ∧ k x0 x1 x2 x3 x4 x5 x6 = some r := by
  cases o with
  | none => cases h
  | some u => exact ⟨u.1, u.2.1, u.2.2.1, u.2.2.2.1, u.2.2.2.2.1, u.2.2.2.2.2.1, u.2.2.2.2.2.2, rfl, h⟩
theorem z_i2 {α0 α1 : Type} {x0 y0 : α0} {x1 y1 : α1} (h : some (x0, x1) = some (y0, y1)) : x0 = y0 ∧ x1 = y1 := by
  have h := Option.some.inj h
  simp only [Prod.mk.injEq] at h
  exact h
theorem z_i3 {α0 α1 α2 : Type} {x0 y0 : α0} {x1 y1 : α1} {x2 y2 : α2} (h : some (x0, x1, x2) = some (y0, y1, y2)) : x0 = y0 ∧ x1 = y1 ∧ x2 = y2 := by
  have h := Option.some.inj h
  simp only [Prod.mk.injEq] at h
  exact h
theorem z_i4 {α0 α1 α2 α3 : Type} {x0 y0 : α0} {x1 y1 : α1} {x2 y2 : α2} {x3 y3 : α3} (h : some (x0, x1, x2, x3) = some (y0, y1, y2, y3)) : x0 = y0 ∧ x1 = y1 ∧ x2 = y2 ∧ x3 = y3 := by
  have h := Option.some.inj h
  simp only [Prod.mk.injEq] at h
  exact h
theorem z_i5 {α0 α1 α2 α3 α4 : Type} {x0 y0 : α0} {x1 y1 : α1} {x2 y2 : α2} {x3 y3 : α3} {x4 y4 : α4} (h : some (x0, x1, x2, x3, x4) = some (y0, y1, y2, y3, y4)) : x0 = y0 ∧ x1 = y1 ∧ x2 = y2 ∧ x3 = y3 ∧ x4 = y4 := by
  have h := Option.some.inj h
  simp only [Prod.mk.injEq] at h
  exact h
theorem z_i6 {α0 α1 α2 α3 α4 α5 : Type} {x0 y0 : α0} {x1 y1 : α1} {x2 y2 : α2} {x3 y3 : α3} {x4 y4 : α4} {x5 y5 : α5} (h : some (x0, x1, x2, x3, x4, x5) = some (y0, y1, y2, y3, y4, y5)) : x0 = y0 ∧ x1 = y1 ∧ x2 = y2 ∧ x3 = y3 ∧ x4 = y4 ∧ x5 = y5 := by
  have h := Option.some.inj h
  simp only [Prod.mk.injEq] at h
  exact h
theorem z_i7 {α0 α1 α2 α3 α4 α5 α6 : Type} {x0 y0 : α0} {x1 y1 : α1} {x2 y2 : α2} {x3 y3 : α3} {x4 y4 : α4} {x5 y5 : α5} {x6 y6 : α6} (h : some (x0, x1, x2, x3, x4, x5, x6) = some (y0, y1, y2, y3, y4, y5, y6)) : x0 = y0 ∧ x1 = y1 ∧ x2 = y2 ∧ x3 = y3 ∧ x4 = y4 ∧ x5 = y5 ∧ x6 = y6 := by
  have h := Option.some.inj h
  simp only [Prod.mk.injEq] at h
  exact h
theorem zJ.full {dD : va_G} {A : Nat → Prop} {ws w2 : va_W} {H0 H : Heap} {locs : List Loc} (hP : va_P dD vwCl ws H) (hD : va_D A ws) (hS : va_S A H0 H locs) (hA : ∀ q, H0.size ≤ q → A q) : zJ dD A ws w2 w2 H := by
  have hF : ∀ q, va_A ws H.size q → A q := by
    intro q h
    rcases h with ⟨k, e, h⟩ | h
    · exact hD.2 k (q, e) h
    · exact hA q (Nat.le_trans hS.1 h)
  exact ⟨hP, hD, hF, fun H1 hk hP1 hD1 => ⟨hP1, hD1.weaken (fun k q _ h => hF q.1 h)⟩⟩
theorem zJ.none {dD : va_G} {A : Nat → Prop} {ws : va_W} {H0 H : Heap} {locs : List Loc} (hP : va_P dD vwCl ws H) (hD : va_D A ws) (hS : va_S A H0 H locs) (hA : ∀ q, H0.size ≤ q → A q) : zJ dD A [] [] ws H := by
  refine ⟨fun k q h => by simp at h, ⟨fun i j p q h => by simp at h, fun k q h => by simp at h⟩, fun q h => ?_, fun H1 hk hP1 hD1 => ⟨hP.kept (fun k q h => hk q.1 ((hP k q h).lt) (fun h2 => ?_)), hD⟩⟩
  · rcases h with ⟨k, e, h⟩ | h
    · simp at h
    · exact hA q (Nat.le_trans hS.1 h)
  · rcases h2 with ⟨k2, e2, h2⟩ | h2
    · simp at h2
    · have := (hP k q h).lt
      omega
def zQ (cI : ClassId) (q : Nat → Nat) (g : zF) (F : Nat → zF) : va_W := [zZ q g, zA cI (q 9) 12 (F 9), zA cI (q 10) 144 (F 10), zA cI (q 11) 12 (F 11), zA cI (q 12) 12 (F 12), zA cI (q 13) 12 (F 13), zA cI (q 14) 144 (F 14), zA cI (q 15) 144 (F 15), zA cI (q 16) 12 (F 16), zA cI (q 17) 12 (F 17), zA cI (q 18) 12 (F 18), zA cI (q 19) 12 (F 19), zA cI (q 20) 12 (F 20), zA cI (q 21) 12 (F 21), zA cI (q 22) 12 (F 22), zA cI (q 23) 12 (F 23), zA cI (q 24) 12 (F 24), zA cI (q 25) 12 (F 25), zA cI (q 26) 12 (F 26), zA cI (q 27) 12 (F 27), zA cI (q 28) 12 (F 28), zA cI (q 31) 12 (F 31), zA cI (q 32) 12 (F 32), zA cI (q 33) 12 (F 33), zA cI (q 34) 12 (F 34), zA cI (q 35) 12 (F 35), zA cI (q 36) 12 (F 36), zA cI (q 37) 12 (F 37), zA cI (q 38) 12 (F 38), zA cI (q 39) 12 (F 39), zA cI (q 40) 12 (F 40)]
