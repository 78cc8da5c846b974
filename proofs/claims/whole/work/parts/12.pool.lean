/-! the pool of machines of a field -/
def zP (cA : ClassId) (a : Nat) (f : Nat → Option Nat) : Nat × va_E := (a, .inl (cA, 12, .inr (.inr (.inr (.inr f)))))
def zfm (qq : Nat → Nat → Nat) (n : Nat) : Nat → Option Nat := fun i => if i < n then some (qq i 0) else none
def zad (qq : Nat → Nat → Nat) (o : Option Nat) : Option Nat := o.map (fun k => qq k 5)
def zs6 (a b c d e f : zF) : Nat → zF := fun k => match k with
  | 0 => a
  | 1 => b
  | 2 => c
  | 3 => d
  | 4 => e
  | _ => f
def z6 (cI : ClassId) (q : Nat → Nat) (qq : Nat → Nat → Nat) (j : Nat) (c : Option Nat) (gM gB mk mx gI gL : zF) : va_W := [zM (qq j) (q 2) (q 1) (zad qq c) gM, zB (qq j) gB, zA cI (qq j 2) 12 mk, zA cI (qq j 3) 12 mx, zI (qq j) gI, zL (qq j 5) gL]
def zPc (cI : ClassId) (q : Nat → Nat) (qq : Nat → Nat → Nat) (S : Nat → Nat → zF) (C : Nat → Option Nat) (j : Nat) : va_W := z6 cI q qq j (C j) (S j 0) (S j 1) (S j 2) (S j 3) (S j 4) (S j 5)
def zPool (cI : ClassId) (q : Nat → Nat) (qq : Nat → Nat → Nat) (n : Nat) (S : Nat → Nat → zF) (C : Nat → Option Nat) : va_W := (List.range n).flatMap (zPc cI q qq S C)
def zRest (cI : ClassId) (q : Nat → Nat) (qq : Nat → Nat → Nat) (n j : Nat) (S : Nat → Nat → zF) (C : Nat → Option Nat) : va_W := ((List.range n).erase j).flatMap (zPc cI q qq S C)
def zRest2 (cI : ClassId) (q : Nat → Nat) (qq : Nat → Nat → Nat) (n j k : Nat) (S : Nat → Nat → zF) (C : Nat → Option Nat) : va_W := [zM (qq k) (q 2) (q 1) (zad qq (C k)) (S k 0), zB (qq k) (S k 1), zA cI (qq k 2) 12 (S k 2), zA cI (qq k 3) 12 (S k 3), zI (qq k) (S k 4)] ++ (((List.range n).erase j).erase k).flatMap (zPc cI q qq S C)
theorem z_permP {D : va_G} {cl : List vw_C} {ws ws' : va_W} {H : Heap} (h : ws.Perm ws') (hP : va_P D cl ws H) : va_P D cl ws' H := by
  intro k x hk
  obtain ⟨i, hi⟩ := List.getElem?_of_mem (h.mem_iff.mpr (List.mem_of_getElem? hk))
  exact hP i x hi
theorem z_D_iff {A : Nat → Prop} {ws : va_W} : va_D A ws ↔ ws.Pairwise (fun p q => p.1 ≠ q.1) ∧ ∀ x ∈ ws, A x.1 := by
  constructor
  · intro h
    refine ⟨?_, fun x hx => ?_⟩
    · rw [List.pairwise_iff_getElem]
      intro i j hi hj hij e
      have := h.1 i j _ _ (List.getElem?_eq_getElem hi) (List.getElem?_eq_getElem hj) e
      omega
    · obtain ⟨i, hi⟩ := List.getElem?_of_mem hx
      exact h.2 i x hi
  · intro ⟨h1, h2⟩
    refine ⟨fun i j x y hi hj e => ?_, fun k x hk => h2 x (List.mem_of_getElem? hk)⟩
    obtain ⟨li, ei⟩ := List.getElem?_eq_some_iff.mp hi
    obtain ⟨lj, ej⟩ := List.getElem?_eq_some_iff.mp hj
    rw [List.pairwise_iff_getElem] at h1
    rcases Nat.lt_trichotomy i j with hij | hij | hij
    · exact absurd (by rw [ei, ej]; exact e) (h1 i j li lj hij)
    · exact hij
    · exact absurd (by rw [ei, ej]; exact e.symm) (h1 j i lj li hij)
theorem z_permD {A : Nat → Prop} {ws ws' : va_W} (h : ws.Perm ws') (hD : va_D A ws) : va_D A ws' := by
  rw [z_D_iff] at hD ⊢
  exact ⟨(h.pairwise_iff (fun {x y} hxy => Ne.symm hxy)).mp hD.1, fun x hx => hD.2 x (h.mem_iff.mpr hx)⟩
theorem z_pool_perm {cI : ClassId} {q : Nat → Nat} {qq : Nat → Nat → Nat} {n j : Nat} {S : Nat → Nat → zF} {C : Nat → Option Nat} (fx : va_W) (hj : j < n) : (fx ++ zPool cI q qq n S C).Perm ((fx ++ z6 cI q qq j (C j) (S j 0) (S j 1) (S j 2) (S j 3) (S j 4) (S j 5)) ++ zRest cI q qq n j S C) := by
  rw [List.append_assoc]
  exact List.Perm.append_left fx ((List.perm_cons_erase (List.mem_range.mpr hj)).flatMap_right (zPc cI q qq S C))
theorem z_rest_up {cI : ClassId} {q : Nat → Nat} {qq : Nat → Nat → Nat} {n j : Nat} {S : Nat → Nat → zF} {C : Nat → Option Nat} (x : Nat → zF) (c : Option Nat) : zRest cI q qq n j (va_up S j x) (va_up C j c) = zRest cI q qq n j S C := by
  unfold zRest
  rw [List.flatMap_def, List.flatMap_def]
  congr 1
  refine List.map_congr_left (fun k hk => ?_)
  have hne : k ≠ j := ((List.nodup_range).mem_erase_iff.mp hk).1
  simp [zPc, va_up, hne]
theorem z_up_self {α : Type} (C : Nat → α) (j : Nat) : va_up C j (C j) = C := by
  funext k
  by_cases h : k = j
  · subst h; simp [va_up]
  · simp [va_up, h]
theorem z_foc {D : va_G} {cl : List vw_C} {A : Nat → Prop} {H : Heap} {cI : ClassId} {q : Nat → Nat} {qq : Nat → Nat → Nat} {n j : Nat} {S : Nat → Nat → zF} {C : Nat → Option Nat} {fx : va_W} (hj : j < n) (hP : va_P D cl (fx ++ zPool cI q qq n S C) H) (hD : va_D A (fx ++ zPool cI q qq n S C)) : va_P D cl ((fx ++ z6 cI q qq j (C j) (S j 0) (S j 1) (S j 2) (S j 3) (S j 4) (S j 5)) ++ zRest cI q qq n j S C) H ∧ va_D A ((fx ++ z6 cI q qq j (C j) (S j 0) (S j 1) (S j 2) (S j 3) (S j 4) (S j 5)) ++ zRest cI q qq n j S C) := ⟨z_permP (z_pool_perm fx hj) hP, z_permD (z_pool_perm fx hj) hD⟩
theorem z_unf0 {D : va_G} {cl : List vw_C} {A : Nat → Prop} {H : Heap} {cI : ClassId} {q : Nat → Nat} {qq : Nat → Nat → Nat} {n j : Nat} {S : Nat → Nat → zF} {C : Nat → Option Nat} (fx : va_W) (hj : j < n) (hP : va_P D cl ((fx ++ z6 cI q qq j (C j) (S j 0) (S j 1) (S j 2) (S j 3) (S j 4) (S j 5)) ++ zRest cI q qq n j S C) H) (hD : va_D A ((fx ++ z6 cI q qq j (C j) (S j 0) (S j 1) (S j 2) (S j 3) (S j 4) (S j 5)) ++ zRest cI q qq n j S C)) : va_P D cl (fx ++ zPool cI q qq n S C) H ∧ va_D A (fx ++ zPool cI q qq n S C) := ⟨z_permP (z_pool_perm fx hj).symm hP, z_permD (z_pool_perm fx hj).symm hD⟩
theorem z_unf {D : va_G} {cl : List vw_C} {A : Nat → Prop} {H : Heap} {cI : ClassId} {q : Nat → Nat} {qq : Nat → Nat → Nat} {n j : Nat} {S : Nat → Nat → zF} {C : Nat → Option Nat} (fx : va_W) {c : Option Nat} {gM gB mk mx gI gL : zF} (hj : j < n) (hP : va_P D cl ((fx ++ z6 cI q qq j c gM gB mk mx gI gL) ++ zRest cI q qq n j S C) H) (hD : va_D A ((fx ++ z6 cI q qq j c gM gB mk mx gI gL) ++ zRest cI q qq n j S C)) : va_P D cl (fx ++ zPool cI q qq n (va_up S j (zs6 gM gB mk mx gI gL)) (va_up C j c)) H ∧ va_D A (fx ++ zPool cI q qq n (va_up S j (zs6 gM gB mk mx gI gL)) (va_up C j c)) := by
  refine z_unf0 fx hj ?_ ?_
  · rw [z_rest_up]
    simpa [va_up, zs6] using hP
  · rw [z_rest_up]
    simpa [va_up, zs6] using hD
theorem z_unfS {D : va_G} {cl : List vw_C} {A : Nat → Prop} {H : Heap} {cI : ClassId} {q : Nat → Nat} {qq : Nat → Nat → Nat} {n j : Nat} {S : Nat → Nat → zF} {C : Nat → Option Nat} (fx : va_W) {gM gB mk mx gI gL : zF} (hj : j < n) (hP : va_P D cl ((fx ++ z6 cI q qq j (C j) gM gB mk mx gI gL) ++ zRest cI q qq n j S C) H) (hD : va_D A ((fx ++ z6 cI q qq j (C j) gM gB mk mx gI gL) ++ zRest cI q qq n j S C)) : va_P D cl (fx ++ zPool cI q qq n (va_up S j (zs6 gM gB mk mx gI gL)) C) H ∧ va_D A (fx ++ zPool cI q qq n (va_up S j (zs6 gM gB mk mx gI gL)) C) := by
  have h := z_unf fx hj hP hD
  rw [z_up_self] at h
  exact h
theorem z_erase2 {n j k : Nat} (hk : k < n) (hne : ¬ k = j) : k ∈ (List.range n).erase j := (List.nodup_range).mem_erase_iff.mpr ⟨hne, List.mem_range.mpr hk⟩
theorem z_rest_perm {cI : ClassId} {q : Nat → Nat} {qq : Nat → Nat → Nat} {n j k : Nat} {S : Nat → Nat → zF} {C : Nat → Option Nat} (fx : va_W) (hk : k < n) (hne : ¬ k = j) : (fx ++ zRest cI q qq n j S C).Perm ((fx ++ [zL (qq k 5) (S k 5)]) ++ zRest2 cI q qq n j k S C) := by
  rw [List.append_assoc]
  refine List.Perm.append_left fx ?_
  refine ((List.perm_cons_erase (z_erase2 hk hne)).flatMap_right (zPc cI q qq S C)).trans ?_
  show (zPc cI q qq S C k ++ (((List.range n).erase j).erase k).flatMap (zPc cI q qq S C)).Perm ([zL (qq k 5) (S k 5)] ++ ([zM (qq k) (q 2) (q 1) (zad qq (C k)) (S k 0), zB (qq k) (S k 1), zA cI (qq k 2) 12 (S k 2), zA cI (qq k 3) 12 (S k 3), zI (qq k) (S k 4)] ++ (((List.range n).erase j).erase k).flatMap (zPc cI q qq S C)))
  rw [← List.append_assoc]
  refine List.Perm.append_right _ ?_
  exact (List.perm_append_comm (l₁ := [zM (qq k) (q 2) (q 1) (zad qq (C k)) (S k 0), zB (qq k) (S k 1), zA cI (qq k 2) 12 (S k 2), zA cI (qq k 3) 12 (S k 3), zI (qq k) (S k 4)]) (l₂ := [zL (qq k 5) (S k 5)]))
theorem z_foc2 {D : va_G} {cl : List vw_C} {A : Nat → Prop} {H : Heap} {cI : ClassId} {q : Nat → Nat} {qq : Nat → Nat → Nat} {n j k : Nat} {S : Nat → Nat → zF} {C : Nat → Option Nat} (fx : va_W) (hk : k < n) (hne : ¬ k = j) (hP : va_P D cl (fx ++ zRest cI q qq n j S C) H) (hD : va_D A (fx ++ zRest cI q qq n j S C)) : va_P D cl ((fx ++ [zL (qq k 5) (S k 5)]) ++ zRest2 cI q qq n j k S C) H ∧ va_D A ((fx ++ [zL (qq k 5) (S k 5)]) ++ zRest2 cI q qq n j k S C) := ⟨z_permP (z_rest_perm fx hk hne) hP, z_permD (z_rest_perm fx hk hne) hD⟩
theorem z_unf2 {D : va_G} {cl : List vw_C} {A : Nat → Prop} {H : Heap} {cI : ClassId} {q : Nat → Nat} {qq : Nat → Nat → Nat} {n j k : Nat} {S : Nat → Nat → zF} {C : Nat → Option Nat} (fx : va_W) (hk : k < n) (hne : ¬ k = j) (hP : va_P D cl ((fx ++ [zL (qq k 5) (S k 5)]) ++ zRest2 cI q qq n j k S C) H) (hD : va_D A ((fx ++ [zL (qq k 5) (S k 5)]) ++ zRest2 cI q qq n j k S C)) : va_P D cl (fx ++ zRest cI q qq n j S C) H ∧ va_D A (fx ++ zRest cI q qq n j S C) := ⟨z_permP (z_rest_perm fx hk hne).symm hP, z_permD (z_rest_perm fx hk hne).symm hD⟩
theorem zJ.ofP {dD : va_G} {A : Nat → Prop} {X wc wc1 wr w2 pl : va_W} {H0 H : Heap} {locs : List Loc} (hP : va_P dD vwCl (X ++ pl) H) (hD : va_D A (X ++ pl)) (hS : va_S A H0 H locs) (hA : ∀ q, H0.size ≤ q → A q) (isC isR idx : List Nat) (hC : isC.map (fun i => X[i]?) = wc.map some) (hR : isR.map (fun i => X[i]?) = wr.map some) (hnC : va_nd isC = true) (hnR : va_nd isR = true) (hdis : (isR.all fun i => !isC.contains i) = true) (h2 : idx.map (fun i => (wr ++ wc1)[i]?) = w2.map some) (hn2 : va_nd idx = true) : zJ dD A wc wc1 (w2 ++ pl) H := by
  have hP0 : va_P dD vwCl wc H := by
    intro k x hk
    refine hP.part isC hC k x ?_
    rw [List.getElem?_append_left (List.getElem?_eq_some_iff.mp hk).1]
    exact hk
  have hD0 : va_D A wc := by
    refine (hD.part isC hnC hC).by id (fun k x hk => ?_) (fun i j _ _ h => h)
    show (wc ++ pl)[k]? = some x
    rw [List.getElem?_append_left (List.getElem?_eq_some_iff.mp hk).1]
    exact hk
  have hF : ∀ q, va_A wc H.size q → A q := by
    intro q h
    rcases h with ⟨k, e, h⟩ | h
    · exact hD0.2 k (q, e) h
    · exact hA q (Nat.le_trans hS.1 h)
  refine ⟨hP0, hD0, hF, fun H1 hk hP1 hD1 => ?_⟩
  have hdis' : ∀ i ∈ isR, i ∉ isC := fun i hi hc => by
    have := List.all_eq_true.mp hdis i hi
    rw [List.contains_iff_mem.mpr hc] at this
    cases this
  obtain ⟨hP2, hD2⟩ := va_joinQ hP hD isC isR hC hR hnR hdis' hk hF hP1 hD1
  exact ⟨hP2.part idx h2, hD2.part idx hn2 h2⟩
/-- a method that answers a reference or null, and makes nothing -/
def zMq (l : Launch) (y : MethodName) (wsy : List Cond) (rm : Room) (dD : va_G) (cI cA : ClassId) (av : List Value) (ws ws1 : va_W) (ans : Option Nat) : Prop := ∀ sz : Nat, Met l y wsy rm (va_Pc av (zPre dD cI cA ws sz)) (va_Qq (fun (r : Option Nat) (_ : Unit) => r = ans) (fun _ t => zPost dD ws ws1 sz t) (va_A ws sz)) 0 0 (va_A ws sz)
theorem zMq_of {l : Launch} {y : MethodName} {wsy wsy' : List Cond} {rm : Room} {dD : va_G} {cI cA : ClassId} {av : List Value} {ws ws1 : va_W} {ans : Option Nat} {cc : ByteArray} {maxL : Nat} {rt : String} (hy : plainName y.cls = true) (hw : wsy = Cond.code y cc maxL (some (.object rt)) :: wsy') (hnl : (lg_sl av).length ≤ maxL)
    (body : ∀ (p : Program) (e : Env) (s : State) (m : MethodId) (args : Array Value) (below : List Frame) (meth : Method) (c : Code) (A : Nat → Prop) (Q : State → Prop) (ls : Array Slot), p.tables.exec = Jvm.exec → c.code = cc → c.maxLocals = maxL → s.vm.findClass y.cls = some m.cls → (∀ w ∈ wsy, w.before args s = true) → zK dD cI cA s → (∀ q, s.heap.size ≤ q → A q) → va_P dD vwCl ws s.heap → va_D A ws → lv_has ls maxL (lv_args 0 av) →
      (∀ (H : Heap) (locs : List Loc) (ls : Array Slot) (pc : Nat), decode cc pc = .ok (.areturn, 1) → va_P dD vwCl ws1 H → va_D A ws1 → va_S A s.heap H locs → W p l e rm s m args below meth c H locs 0 0 Q (F0 m pc ls [va_rf ans])) →
      W p l e rm s m args below meth c s.heap [] 0 0 Q (F0 m 0 ls [])) : zMq l y wsy rm dD cI cA av ws ws1 ans := by
  intro sz
  refine Met.ofW (cc := cc) (maxL := maxL) (ret := some (.object rt)) hy hw ?_
  intro p e s m args below meth c s₁ B hml hv
  obtain ⟨rfl, hsz, hP, hK, hD0⟩ := hv
  subst hsz
  have hl := lv_entry av (n := maxL) hnl
  rw [lg_entry_eq]
  refine body p e s m _ below meth c (va_A ws s.heap.size) _ _ B.exec B.bytes hml (findClass_of_methodNamed B.named) (atoms_spec (ws := wsy) B.pre) hK (fun q h => Or.inr h) hP hD0.self hl ?_
  intro H locs ls pc hd hP hD hS
  exact W.aret B.exec B.bytes B.returns (Or.inl ⟨_, rfl⟩) (by cases ans with | none => exact Or.inl rfl | some a => exact Or.inr ⟨a, rfl⟩) (fun t ht hW => ⟨⟨ans, (), rfl, rfl, by rw [ht]; exact hP, hD⟩, hS.F ht⟩) hS.2.2 hd B.notSynchronized
section ZCQ
variable {p : Program} {l : Launch} {e : Env} {R : Room} {s : State} {m : MethodId} {args : Array Value} {below : List Frame} {meth : Method} {c : Code} {H : Heap} {locs : List Loc} {cells slots : Nat} {Q : State → Prop}
variable {y : MethodName} {bytes cc : ByteArray} {maxL nL n index pc : Nat} {ret : Option FieldType} {wsy Ts : List Cond} {rm : Room} {own C : String} {b : Addr} {As rest st0 : List Value} {ls : Array Slot} {A : Nat → Prop} {dD : va_G} {cI cA : ClassId} {wc wc1 w2 : va_W} {anq : Option Nat}
theorem z_callVq (S : CallFix p m c cc nL s args Ts own) (hK : zK dD cI cA s) (hM : zMq l y wsy rm dD cI cA (.ref b :: As) wc wc1 anq) (cw : CallW R s args own C index y bytes maxL ret wsy rm 0 0 n) (hJ : zJ dD A wc wc1 w2 H) (hS : va_S A s.heap H locs) (q0 ci : Nat) {vc : vw_C} {fs : List Value} (hci : vwCl[ci]? = some vc) (hq0 : wc[q0]? = some (b, .inr (ci, fs))) (hCn : vc.1 = C) (hn : As.length = n) (hlsz : ls.size = nL) (hst : st0 = As.reverse ++ .ref b :: rest) (hrm : (rest.map fun v => v.category).sum ≤ 8) (hdg : decode cc pc = .ok (.invokevirtual index, 3)) (hcs : cells ≤ R.cells ∧ slots ≤ R.slots)
    (kk : ∀ (H1 : Heap) (locs1 : List Loc), va_P dD vwCl w2 H1 → va_D A w2 → va_S A s.heap H1 locs1 → W p l e R s m args below meth c H1 locs1 cells slots Q (F0 m (pc + 3) ls (va_rf anq :: rest))) : W p l e R s m args below meth c H locs cells slots Q (F0 m pc ls st0) := by
  obtain ⟨hPc, hDc, hF, hj⟩ := hJ
  subst hCn
  refine va_callq (va_runV (As := As) (rest := rest) S (hM H.size) cw ⟨zPre.blind, va_recv hK.1 hPc hci hq0, fun U hU hW => ⟨rfl, by rw [hU], by rw [hU]; exact hPc, hK.warm hW, hDc.weaken (fun _ _ _ _ => trivial)⟩⟩ rfl hn hlsz hst (lv_room hrm) hdg ⟨hcs.1, hcs.2⟩) hS (fun q _ h => hF q h) hF (fun r u t H1 locs1 ht hvm hw hB hz1 hk1 hS1 => ?_)
  obtain ⟨hP1, hD1⟩ := hB
  rw [ht] at hP1
  obtain ⟨hP2, hD2⟩ := hj H1 hk1 hP1 hD1
  subst hw
  exact kk H1 locs1 hP2 hD2 hS1
theorem z_aload_n (hexec : p.tables.exec = Jvm.exec) (hb : c.code = cc) {k : Fin 4} {i : Nat} {o : Option Nat} (hdg : decode cc pc = .ok (.aload_n k, 1)) (hi : (k : Nat) = i) (hl : ls[i]? = some (.val (va_rf o)))
    (kk : W p l e R s m args below meth c H locs cells slots Q (F0 m (pc + 1) ls (va_rf o :: rest))) : W p l e R s m args below meth c H locs cells slots Q (F0 m pc ls rest) := by
  cases o with
  | none => exact lv_aload_nN hexec hb hdg hi hl kk
  | some a => exact lv_aload_n hexec hb hdg hi hl kk
theorem z_ropt {qq : Nat → Nat → Nat} {o : Option Nat} {k : Nat} (h : o = some k) (kk : W p l e R s m args below meth c H locs cells slots Q (F0 m pc ls (.ref (qq k 5) :: rest))) : W p l e R s m args below meth c H locs cells slots Q (F0 m pc ls (va_rf (zad qq o) :: rest)) := by
  subst h
  exact kk
theorem z_nopt {qq : Nat → Nat → Nat} {o : Option Nat} (h : o = none) (kk : W p l e R s m args below meth c H locs cells slots Q (F0 m pc ls (.null :: rest))) : W p l e R s m args below meth c H locs cells slots Q (F0 m pc ls (va_rf (zad qq o) :: rest)) := by
  subst h
  exact kk
end ZCQ
theorem z_fitq (t : String) (o : Option Nat) : fits (.object t) (va_rf o) = true := by cases o <;> rfl
theorem z_narq (t : String) (o : Option Nat) : narrow (.object t) (va_rf o) = va_rf o := by cases o <;> rfl
def zo {β : Type} (o : Option Nat) (k1 : Option β) (k2 : Nat → Option β) : Option β := match o with | none => k1 | some j => k2 j
theorem z_op {β : Type} {o : Option Nat} {k1 : Option β} {k2 : Nat → Option β} {r : β} (h : zo o k1 k2 = some r) : (o = none ∧ k1 = some r) ∨ ∃ j, o = some j ∧ k2 j = some r := by
  cases o with
  | none => exact Or.inl ⟨rfl, h⟩
  | some j => exact Or.inr ⟨j, rfl, h⟩
theorem z_g2 {β : Type} {k n j : Nat} {K : Option β} {r : β} (h : (if k < n ∧ ¬ k = j then K else none) = some r) : k < n ∧ ¬ k = j ∧ K = some r := by
  by_cases hb : k < n ∧ ¬ k = j
  · rw [if_pos hb] at h; exact ⟨hb.1, hb.2, h⟩
  · rw [if_neg hb] at h; cases h
