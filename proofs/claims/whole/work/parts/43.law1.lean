/-! the law: worlds side by side, machine(), the start's tables -/
theorem P_of {dD : va_G} {cl : List vw_C} {ws ws' : va_W} {H : Heap} (h : ∀ x ∈ ws', x ∈ ws) (hP : va_P dD cl ws H) : va_P dD cl ws' H := fun k x hk => by
  obtain ⟨i, hi⟩ := List.getElem?_of_mem (h x (List.mem_of_getElem? hk))
  exact hP i x hi
theorem zJ_perm {dD : va_G} {A : Nat → Prop} {ws wc wc1 wr : va_W} {H0 H : Heap} {locs : List Loc} (hp : ws.Perm (wc ++ wr)) (hP : va_P dD vwCl ws H) (hD : va_D A ws) (hS : va_S A H0 H locs) (hA : ∀ q, H0.size ≤ q → A q) : zJ dD A wc wc1 (wc1 ++ wr) H := by
  have hP' := z_permP hp hP
  obtain ⟨d1, d2⟩ := z_D_iff.mp (z_permD hp hD)
  obtain ⟨e1, e2, e3⟩ := List.pairwise_append.mp d1
  have hPc : va_P dD vwCl wc H := P_of (fun x hx => List.mem_append_left _ hx) hP'
  have hPr : va_P dD vwCl wr H := P_of (fun x hx => List.mem_append_right _ hx) hP'
  have hF : ∀ q, va_A wc H.size q → A q := by
    intro q h
    rcases h with ⟨k, e, h⟩ | h
    · exact d2 (q, e) (List.mem_append_left _ (List.mem_of_getElem? h))
    · exact hA q (Nat.le_trans hS.1 h)
  have hN : ∀ x ∈ wr, ¬ va_A wc H.size x.1 := by
    intro x hx h
    obtain ⟨i, hi⟩ := List.getElem?_of_mem hx
    rcases h with ⟨k, e, h⟩ | h
    · exact e3 (x.1, e) (List.mem_of_getElem? h) x hx rfl
    · have := (hPr i x hi).lt
      omega
  refine ⟨hPc, z_D_iff.mpr ⟨e1, fun x hx => d2 x (List.mem_append_left _ hx)⟩, hF, fun H1 hk hP1 hD1 => ⟨?_, ?_⟩⟩
  · exact hP1.app (hPr.kept (fun k x hx => hk x.1 ((hPr k x hx).lt) (hN x (List.mem_of_getElem? hx))))
  · obtain ⟨f1, f2⟩ := z_D_iff.mp hD1
    refine z_D_iff.mpr ⟨List.pairwise_append.mpr ⟨f1, e2, fun a ha b hb e => ?_⟩, fun x hx => ?_⟩
    · exact hN b hb (by rw [← e]; exact f2 a ha)
    · rcases List.mem_append.mp hx with h | h
      · exact hF x.1 (f2 x h)
      · exact d2 x (List.mem_append_right _ h)
theorem zJ_to {dD : va_G} {A : Nat → Prop} {wc wc1 w2 w3 : va_W} {H : Heap} (hp : w2.Perm w3) (h : zJ dD A wc wc1 w2 H) : zJ dD A wc wc1 w3 H := by
  obtain ⟨h1, h2, h3, h4⟩ := h
  refine ⟨h1, h2, h3, fun H1 hk hP1 hD1 => ?_⟩
  obtain ⟨a, b⟩ := h4 H1 hk hP1 hD1
  exact ⟨z_permP hp a, z_permD hp b⟩
/-- a callee on the left world, on the right one -/
theorem zJ_l {dD : va_G} {A : Nat → Prop} {a a' b : va_W} {H0 H : Heap} {locs : List Loc} (hP : va_P dD vwCl (a ++ b) H) (hD : va_D A (a ++ b)) (hS : va_S A H0 H locs) (hA : ∀ q, H0.size ≤ q → A q) : zJ dD A a a' (a' ++ b) H := zJ_perm (List.Perm.refl _) hP hD hS hA
theorem zJ_r {dD : va_G} {A : Nat → Prop} {a b b' : va_W} {H0 H : Heap} {locs : List Loc} (hP : va_P dD vwCl (a ++ b) H) (hD : va_D A (a ++ b)) (hS : va_S A H0 H locs) (hA : ∀ q, H0.size ≤ q → A q) : zJ dD A b b' (a ++ b') H := zJ_to List.perm_append_comm (zJ_perm List.perm_append_comm hP hD hS hA)
/-- the first cell and one more of the left world -/
theorem zJ_m {dD : va_G} {A : Nat → Prop} {x x' d d' : Nat × va_E} {u v : va_W} {H0 H : Heap} {locs : List Loc} (hP : va_P dD vwCl (x :: (u ++ d :: v)) H) (hD : va_D A (x :: (u ++ d :: v))) (hS : va_S A H0 H locs) (hA : ∀ q, H0.size ≤ q → A q) : zJ dD A [x, d] [x', d'] (x' :: (u ++ d' :: v)) H := by
  have h1 : (x :: (u ++ d :: v)).Perm ([x, d] ++ (u ++ v)) := List.Perm.cons x List.perm_middle
  have h2 : ([x', d'] ++ (u ++ v)).Perm (x' :: (u ++ d' :: v)) := (show (x' :: (u ++ d' :: v)).Perm ([x', d'] ++ (u ++ v)) from List.Perm.cons x' List.perm_middle).symm
  exact zJ_to h2 (zJ_perm h1 hP hD hS hA)
section ZVJ
variable {p : Program} {l : Launch} {e : Env} {R : Room} {s : State} {m : MethodId} {args : Array Value} {below : List Frame} {meth : Method} {c : Code} {H : Heap} {locs : List Loc} {cells slots : Nat} {Q : State → Prop}
variable {y : MethodName} {bytes cc : ByteArray} {maxL nL n index pc mc ms : Nat} {ret : Option FieldType} {wsy Ts : List Cond} {rm : Room} {own C : String} {b : Addr} {As rest st0 : List Value} {ls : Array Slot} {A : Nat → Prop} {dD : va_G} {cI cA : ClassId} {wc : va_W} {U : Type} {wc1 w2 : U → va_W} {ans : Int32}
theorem z_callVj (S : CallFix p m c cc nL s args Ts own) (hK : zK dD cI cA s) (hM : zMj l y wsy rm dD cI cA (.ref b :: As) wc ans wc1 mc ms) (cw : CallW R s args own C index y bytes maxL ret wsy rm mc ms n) (u0 : U) (hJ : ∀ u, zJ dD A wc (wc1 u) (w2 u) H) (hS : va_S A s.heap H locs) (q0 ci : Nat) {vc : vw_C} {fs : List Value} (hci : vwCl[ci]? = some vc) (hq0 : wc[q0]? = some (b, .inr (ci, fs))) (hCn : vc.1 = C) (hn : As.length = n) (hlsz : ls.size = nL) (hst : st0 = As.reverse ++ .ref b :: rest) (hrm : (rest.map fun v => v.category).sum ≤ 8) (hdg : decode cc pc = .ok (.invokevirtual index, 3)) (hcs : cells + mc ≤ R.cells ∧ slots + ms ≤ R.slots)
    (kk : ∀ (u : U) (H1 : Heap) (locs1 : List Loc), va_P dD vwCl (w2 u) H1 → va_D A (w2 u) → va_S A s.heap H1 locs1 → W p l e R s m args below meth c H1 locs1 (cells + mc) (slots + ms) Q (F0 m (pc + 3) ls (.int ans :: rest))) : W p l e R s m args below meth c H locs cells slots Q (F0 m pc ls st0) := by
  obtain ⟨hPc, hDc, hF, -⟩ := hJ u0
  subst hCn
  refine va_calli (va_runV (As := As) (rest := rest) S (hM H.size) cw ⟨zPre.blind, va_recv hK.1 hPc hci hq0, fun U hU hW => ⟨rfl, by rw [hU], by rw [hU]; exact hPc, hK.warm hW, hDc.weaken (fun _ _ _ _ => trivial)⟩⟩ rfl hn hlsz hst (lv_room hrm) hdg ⟨hcs.1, hcs.2⟩) hS (fun q _ h => hF q h) hF (fun r u t H1 locs1 ht hvm hw hB hz1 hk1 hS1 => ?_)
  obtain ⟨hP1, hD1⟩ := hB
  rw [ht] at hP1
  obtain ⟨-, -, -, hj⟩ := hJ u
  obtain ⟨hP2, hD2⟩ := hj H1 hk1 hP1 hD1
  subst hw
  exact kk u H1 locs1 hP2 hD2 hS1
end ZVJ
theorem zK_start {s : State} {args : Array Value} (hts : ∀ w ∈ lw_tbl, w.before args s = true) : ∃ dD cI cA, zK dD cI cA s := by
  obtain ⟨c0, iS0, hKn0⟩ := u_known (C := RX0) (T := TX0) (N := 3) (n := 3) hts lwx_0 (hts (.instantiable RX0 3) (by decide +kernel))
  obtain ⟨c1, iS1, hKn1⟩ := u_known (C := RX1) (T := TX1) (N := 1) (n := 1) hts lwx_1 (hts (.instantiable RX1 1) (by decide +kernel))
  obtain ⟨c2, iS2, hKn2⟩ := u_known (C := RX2) (T := TX2) (N := 4) (n := 4) hts lwx_2 (hts (.instantiable RX2 4) (by decide +kernel))
  obtain ⟨c3, iS3, hKn3⟩ := u_known (C := RX3) (T := TX3) (N := 9) (n := 9) hts lwx_3 (hts (.instantiable RX3 9) (by decide +kernel))
  obtain ⟨c4, iS4, hKn4⟩ := u_known (C := RX4) (T := TX4) (N := 18) (n := 18) hts lwx_4 (hts (.instantiable RX4 18) (by decide +kernel))
  obtain ⟨c5, iS5, hKn5⟩ := u_known (C := RX5) (T := TX5) (N := 4) (n := 4) hts lwx_5 (hts (.instantiable RX5 4) (by decide +kernel))
  obtain ⟨c6, iS6, hKn6⟩ := u_known (C := RX6) (T := TX6) (N := 10) (n := 10) hts lwx_6 (hts (.instantiable RX6 10) (by decide +kernel))
  obtain ⟨c7, iS7, hKn7⟩ := u_known (C := RX7) (T := TX7) (N := 41) (n := 41) hts lwx_7 (hts (.instantiable RX7 41) (by decide +kernel))
  obtain ⟨dC, dI, hKc⟩ : ∃ (dC : Nat → ClassId) (dI : Nat → Nat → Nat), ∀ (k : Nat) (q : vw_C), vwCl[k]? = some q → u_Kn s q.1 q.2.1 q.2.2 (dC k) (dI k) := by
    refine ⟨fun k => match k with | 0 => c0 | 1 => c1 | 2 => c2 | 3 => c3 | 4 => c4 | 5 => c5 | 6 => c6 | _ => c7, fun k => match k with | 0 => iS0 | 1 => iS1 | 2 => iS2 | 3 => iS3 | 4 => iS4 | 5 => iS5 | 6 => iS6 | _ => iS7, ?_⟩
    intro k q hq
    match k, hq with
    | 0, hq => cases hq; exact hKn0
    | 1, hq => cases hq; exact hKn1
    | 2, hq => cases hq; exact hKn2
    | 3, hq => cases hq; exact hKn3
    | 4, hq => cases hq; exact hKn4
    | 5, hq => cases hq; exact hKn5
    | 6, hq => cases hq; exact hKn6
    | 7, hq => cases hq; exact hKn7
    | k + 8, hq => simp [vwCl] at hq
  have hov : (Cond.arrayOver (.object RX4)).before args s = true := hts _ (by decide +kernel)
  obtain ⟨cI, kI, compI, i1, i2, i3⟩ := Cond.arrayClass_spec (hts (.arrayClass .int) (by decide +kernel))
  obtain ⟨comp, cA, kA, a1, a2, a3, a4, a5⟩ := Cond.arrayOver_spec hov
  refine ⟨(dC, dI), cI, cA, ⟨hKc, fun k q hq => ?_⟩, fun w hw => ?_, va_AO.of hov⟩
  · match k, hq with
    | 0, hq => cases hq; exact ⟨fun N z => ⟨(fun k h => by cases h), kI, i2, compI, i3⟩, i1⟩
    | 1, hq => cases hq; exact ⟨fun N z => ⟨(fun k h => by cases h), kA, a3, comp, a4⟩, kA, comp, a3, a4, a1, a5⟩
    | k + 2, hq => simp [zT] at hq
  · have h1 := zN_ok w hw
    have h2 := hts w (zN_in w hw)
    cases w with
    | fieldLinkNest a i b n d h' => exact va_Nw.of rfl h2
    | methodLinkNest a i x h' => exact va_Nw.of rfl h2
    | _ => exact absurd h1 Bool.false_ne_true
