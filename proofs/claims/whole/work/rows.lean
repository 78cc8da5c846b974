section
-- ===== PART A: goes FIRST, ahead of the names: the tables' words, and 'selects' of the private methods out of them =====
/-- a private method of a class that the tables say can be made, by its rows of tables_1 -/
def lw_okq (q : MethodName × Nat) : Prop := (q.1.cls ≠ "java/lang/invoke/MethodHandle" ∧ q.1.cls ≠ "java/lang/invoke/VarHandle") ∧ Cond.instantiable q.1.cls q.2 ∈ tables_1 ∧ Cond.privateMethod q.1 ∈ tables_1 ∧ Cond.instanceMethod q.1 ∈ tables_1
theorem lw_p0 : lw_okq (⟨"MeshField", "machineAt", "(I)LMeshField$Machine;"⟩, 10) := ⟨⟨by decide +kernel, by decide +kernel⟩, List.mem_of_getElem? (i := 12) (by decide +kernel), List.mem_of_getElem? (i := 272) (by decide +kernel), List.mem_of_getElem? (i := 273) (by decide +kernel)⟩
theorem lw_p1 : lw_okq (⟨"MeshField", "pairOf", "(II)I"⟩, 10) := ⟨⟨by decide +kernel, by decide +kernel⟩, List.mem_of_getElem? (i := 12) (by decide +kernel), List.mem_of_getElem? (i := 276) (by decide +kernel), List.mem_of_getElem? (i := 277) (by decide +kernel)⟩
theorem lw_p2 : lw_okq (⟨"MeshField$Machine", "keep", "(III)V"⟩, 18) := ⟨⟨by decide +kernel, by decide +kernel⟩, List.mem_of_getElem? (i := 109) (by decide +kernel), List.mem_of_getElem? (i := 292) (by decide +kernel), List.mem_of_getElem? (i := 293) (by decide +kernel)⟩
theorem lw_p3 : lw_okq (⟨"MeshField", "sendLetters", "()V"⟩, 10) := ⟨⟨by decide +kernel, by decide +kernel⟩, List.mem_of_getElem? (i := 12) (by decide +kernel), List.mem_of_getElem? (i := 354) (by decide +kernel), List.mem_of_getElem? (i := 355) (by decide +kernel)⟩
theorem lw_p4 : lw_okq (⟨"MeshField$Basis", "headOfNth", "(I)I"⟩, 3) := ⟨⟨by decide +kernel, by decide +kernel⟩, List.mem_of_getElem? (i := 115) (by decide +kernel), List.mem_of_getElem? (i := 371) (by decide +kernel), List.mem_of_getElem? (i := 372) (by decide +kernel)⟩
theorem lw_p5 : lw_okq (⟨"MeshField$Machine", "address", "(I)V"⟩, 18) := ⟨⟨by decide +kernel, by decide +kernel⟩, List.mem_of_getElem? (i := 109) (by decide +kernel), List.mem_of_getElem? (i := 379) (by decide +kernel), List.mem_of_getElem? (i := 380) (by decide +kernel)⟩
theorem lw_p6 : lw_okq (⟨"MeshField", "hearLetters", "()V"⟩, 10) := ⟨⟨by decide +kernel, by decide +kernel⟩, List.mem_of_getElem? (i := 12) (by decide +kernel), List.mem_of_getElem? (i := 383) (by decide +kernel), List.mem_of_getElem? (i := 384) (by decide +kernel)⟩
theorem lw_p7 : lw_okq (⟨"MeshField", "listen", "(LMeshField$Machine;I)V"⟩, 10) := ⟨⟨by decide +kernel, by decide +kernel⟩, List.mem_of_getElem? (i := 12) (by decide +kernel), List.mem_of_getElem? (i := 391) (by decide +kernel), List.mem_of_getElem? (i := 392) (by decide +kernel)⟩
theorem lw_p8 : lw_okq (⟨"MeshField", "oddsBetween", "(II)I"⟩, 10) := ⟨⟨by decide +kernel, by decide +kernel⟩, List.mem_of_getElem? (i := 12) (by decide +kernel), List.mem_of_getElem? (i := 395) (by decide +kernel), List.mem_of_getElem? (i := 396) (by decide +kernel)⟩
theorem lw_p9 : lw_okq (⟨"MeshField", "letLettersWork", "()V"⟩, 10) := ⟨⟨by decide +kernel, by decide +kernel⟩, List.mem_of_getElem? (i := 12) (by decide +kernel), List.mem_of_getElem? (i := 400) (by decide +kernel), List.mem_of_getElem? (i := 401) (by decide +kernel)⟩
theorem lw_p10 : lw_okq (⟨"MeshField$Machine", "takeTell", "(LMeshField$Letter;I)V"⟩, 18) := ⟨⟨by decide +kernel, by decide +kernel⟩, List.mem_of_getElem? (i := 109) (by decide +kernel), List.mem_of_getElem? (i := 409) (by decide +kernel), List.mem_of_getElem? (i := 410) (by decide +kernel)⟩
theorem lw_p11 : lw_okq (⟨"MeshField$Machine", "takeMix", "(LMeshField$Letter;I)V"⟩, 18) := ⟨⟨by decide +kernel, by decide +kernel⟩, List.mem_of_getElem? (i := 109) (by decide +kernel), List.mem_of_getElem? (i := 414) (by decide +kernel), List.mem_of_getElem? (i := 415) (by decide +kernel)⟩
theorem lw_p12 : lw_okq (⟨"MeshField", "endTick", "()V"⟩, 10) := ⟨⟨by decide +kernel, by decide +kernel⟩, List.mem_of_getElem? (i := 12) (by decide +kernel), List.mem_of_getElem? (i := 419) (by decide +kernel), List.mem_of_getElem? (i := 420) (by decide +kernel)⟩
theorem lw_p13 : lw_okq (⟨"MeshField", "noteAllWhole", "()V"⟩, 10) := ⟨⟨by decide +kernel, by decide +kernel⟩, List.mem_of_getElem? (i := 12) (by decide +kernel), List.mem_of_getElem? (i := 438) (by decide +kernel), List.mem_of_getElem? (i := 439) (by decide +kernel)⟩
theorem lw_p14 : lw_okq (⟨"MeshField", "lettersSent", "()I"⟩, 10) := ⟨⟨by decide +kernel, by decide +kernel⟩, List.mem_of_getElem? (i := 12) (by decide +kernel), List.mem_of_getElem? (i := 465) (by decide +kernel), List.mem_of_getElem? (i := 466) (by decide +kernel)⟩
theorem lw_p15 : lw_okq (⟨"MeshField", "runnersOfGreatest", "()I"⟩, 10) := ⟨⟨by decide +kernel, by decide +kernel⟩, List.mem_of_getElem? (i := 12) (by decide +kernel), List.mem_of_getElem? (i := 469) (by decide +kernel), List.mem_of_getElem? (i := 470) (by decide +kernel)⟩
def lw_privs_1 : List (MethodName × Nat) := [(⟨"MeshField", "machineAt", "(I)LMeshField$Machine;"⟩, 10), (⟨"MeshField", "pairOf", "(II)I"⟩, 10), (⟨"MeshField$Machine", "keep", "(III)V"⟩, 18), (⟨"MeshField", "sendLetters", "()V"⟩, 10), (⟨"MeshField$Basis", "headOfNth", "(I)I"⟩, 3), (⟨"MeshField$Machine", "address", "(I)V"⟩, 18), (⟨"MeshField", "hearLetters", "()V"⟩, 10), (⟨"MeshField", "listen", "(LMeshField$Machine;I)V"⟩, 10), (⟨"MeshField", "oddsBetween", "(II)I"⟩, 10), (⟨"MeshField", "letLettersWork", "()V"⟩, 10), (⟨"MeshField$Machine", "takeTell", "(LMeshField$Letter;I)V"⟩, 18), (⟨"MeshField$Machine", "takeMix", "(LMeshField$Letter;I)V"⟩, 18), (⟨"MeshField", "endTick", "()V"⟩, 10), (⟨"MeshField", "noteAllWhole", "()V"⟩, 10), (⟨"MeshField", "lettersSent", "()I"⟩, 10), (⟨"MeshField", "runnersOfGreatest", "()I"⟩, 10)]
theorem lw_r1 : ∀ q ∈ lw_privs_1, lw_okq q := List.forall_mem_cons.mpr ⟨lw_p0, List.forall_mem_cons.mpr ⟨lw_p1, List.forall_mem_cons.mpr ⟨lw_p2, List.forall_mem_cons.mpr ⟨lw_p3, List.forall_mem_cons.mpr ⟨lw_p4, List.forall_mem_cons.mpr ⟨lw_p5, List.forall_mem_cons.mpr ⟨lw_p6, List.forall_mem_cons.mpr ⟨lw_p7, List.forall_mem_cons.mpr ⟨lw_p8, List.forall_mem_cons.mpr ⟨lw_p9, List.forall_mem_cons.mpr ⟨lw_p10, List.forall_mem_cons.mpr ⟨lw_p11, List.forall_mem_cons.mpr ⟨lw_p12, List.forall_mem_cons.mpr ⟨lw_p13, List.forall_mem_cons.mpr ⟨lw_p14, List.forall_mem_cons.mpr ⟨lw_p15, fun _ h => absurd h List.not_mem_nil⟩⟩⟩⟩⟩⟩⟩⟩⟩⟩⟩⟩⟩⟩⟩⟩
theorem lw_p16 : lw_okq (⟨"MeshFieldModel", "begin", "(II)V"⟩, 41) := ⟨⟨by decide +kernel, by decide +kernel⟩, List.mem_of_getElem? (i := 473) (by decide +kernel), List.mem_of_getElem? (i := 618) (by decide +kernel), List.mem_of_getElem? (i := 619) (by decide +kernel)⟩
theorem lw_p17 : lw_okq (⟨"MeshFieldModel", "draw", "(I)I"⟩, 41) := ⟨⟨by decide +kernel, by decide +kernel⟩, List.mem_of_getElem? (i := 473) (by decide +kernel), List.mem_of_getElem? (i := 622) (by decide +kernel), List.mem_of_getElem? (i := 623) (by decide +kernel)⟩
theorem lw_p18 : lw_okq (⟨"MeshFieldModel", "isMachine", "(I)Z"⟩, 41) := ⟨⟨by decide +kernel, by decide +kernel⟩, List.mem_of_getElem? (i := 473) (by decide +kernel), List.mem_of_getElem? (i := 631) (by decide +kernel), List.mem_of_getElem? (i := 632) (by decide +kernel)⟩
theorem lw_p19 : lw_okq (⟨"MeshFieldModel", "empty", "(I)V"⟩, 41) := ⟨⟨by decide +kernel, by decide +kernel⟩, List.mem_of_getElem? (i := 473) (by decide +kernel), List.mem_of_getElem? (i := 643) (by decide +kernel), List.mem_of_getElem? (i := 644) (by decide +kernel)⟩
theorem lw_p20 : lw_okq (⟨"MeshFieldModel", "sumOf", "(I)I"⟩, 41) := ⟨⟨by decide +kernel, by decide +kernel⟩, List.mem_of_getElem? (i := 473) (by decide +kernel), List.mem_of_getElem? (i := 647) (by decide +kernel), List.mem_of_getElem? (i := 648) (by decide +kernel)⟩
theorem lw_p21 : lw_okq (⟨"MeshFieldModel", "stir", "(I)V"⟩, 41) := ⟨⟨by decide +kernel, by decide +kernel⟩, List.mem_of_getElem? (i := 473) (by decide +kernel), List.mem_of_getElem? (i := 651) (by decide +kernel), List.mem_of_getElem? (i := 652) (by decide +kernel)⟩
theorem lw_p22 : lw_okq (⟨"MeshFieldModel", "own", "(III)V"⟩, 41) := ⟨⟨by decide +kernel, by decide +kernel⟩, List.mem_of_getElem? (i := 473) (by decide +kernel), List.mem_of_getElem? (i := 664) (by decide +kernel), List.mem_of_getElem? (i := 665) (by decide +kernel)⟩
theorem lw_p23 : lw_okq (⟨"MeshFieldModel", "comesIn", "(III)Z"⟩, 41) := ⟨⟨by decide +kernel, by decide +kernel⟩, List.mem_of_getElem? (i := 473) (by decide +kernel), List.mem_of_getElem? (i := 668) (by decide +kernel), List.mem_of_getElem? (i := 669) (by decide +kernel)⟩
theorem lw_p24 : lw_okq (⟨"MeshFieldModel", "rank", "(I)I"⟩, 41) := ⟨⟨by decide +kernel, by decide +kernel⟩, List.mem_of_getElem? (i := 473) (by decide +kernel), List.mem_of_getElem? (i := 672) (by decide +kernel), List.mem_of_getElem? (i := 673) (by decide +kernel)⟩
theorem lw_p25 : lw_okq (⟨"MeshFieldModel", "send", "(I)V"⟩, 41) := ⟨⟨by decide +kernel, by decide +kernel⟩, List.mem_of_getElem? (i := 473) (by decide +kernel), List.mem_of_getElem? (i := 685) (by decide +kernel), List.mem_of_getElem? (i := 686) (by decide +kernel)⟩
theorem lw_p26 : lw_okq (⟨"MeshFieldModel", "makeMix", "(I)V"⟩, 41) := ⟨⟨by decide +kernel, by decide +kernel⟩, List.mem_of_getElem? (i := 473) (by decide +kernel), List.mem_of_getElem? (i := 689) (by decide +kernel), List.mem_of_getElem? (i := 690) (by decide +kernel)⟩
theorem lw_p27 : lw_okq (⟨"MeshFieldModel", "listen", "(I)V"⟩, 41) := ⟨⟨by decide +kernel, by decide +kernel⟩, List.mem_of_getElem? (i := 473) (by decide +kernel), List.mem_of_getElem? (i := 693) (by decide +kernel), List.mem_of_getElem? (i := 694) (by decide +kernel)⟩
theorem lw_p28 : lw_okq (⟨"MeshFieldModel", "work", "(I)V"⟩, 41) := ⟨⟨by decide +kernel, by decide +kernel⟩, List.mem_of_getElem? (i := 473) (by decide +kernel), List.mem_of_getElem? (i := 697) (by decide +kernel), List.mem_of_getElem? (i := 698) (by decide +kernel)⟩
theorem lw_p29 : lw_okq (⟨"MeshFieldModel", "tell", "(III)V"⟩, 41) := ⟨⟨by decide +kernel, by decide +kernel⟩, List.mem_of_getElem? (i := 473) (by decide +kernel), List.mem_of_getElem? (i := 701) (by decide +kernel), List.mem_of_getElem? (i := 702) (by decide +kernel)⟩
theorem lw_p30 : lw_okq (⟨"MeshFieldModel", "mix", "(II)V"⟩, 41) := ⟨⟨by decide +kernel, by decide +kernel⟩, List.mem_of_getElem? (i := 473) (by decide +kernel), List.mem_of_getElem? (i := 705) (by decide +kernel), List.mem_of_getElem? (i := 706) (by decide +kernel)⟩
theorem lw_p31 : lw_okq (⟨"MeshFieldModel", "finish", "(I)V"⟩, 41) := ⟨⟨by decide +kernel, by decide +kernel⟩, List.mem_of_getElem? (i := 473) (by decide +kernel), List.mem_of_getElem? (i := 709) (by decide +kernel), List.mem_of_getElem? (i := 710) (by decide +kernel)⟩
def lw_privs_2 : List (MethodName × Nat) := [(⟨"MeshFieldModel", "begin", "(II)V"⟩, 41), (⟨"MeshFieldModel", "draw", "(I)I"⟩, 41), (⟨"MeshFieldModel", "isMachine", "(I)Z"⟩, 41), (⟨"MeshFieldModel", "empty", "(I)V"⟩, 41), (⟨"MeshFieldModel", "sumOf", "(I)I"⟩, 41), (⟨"MeshFieldModel", "stir", "(I)V"⟩, 41), (⟨"MeshFieldModel", "own", "(III)V"⟩, 41), (⟨"MeshFieldModel", "comesIn", "(III)Z"⟩, 41), (⟨"MeshFieldModel", "rank", "(I)I"⟩, 41), (⟨"MeshFieldModel", "send", "(I)V"⟩, 41), (⟨"MeshFieldModel", "makeMix", "(I)V"⟩, 41), (⟨"MeshFieldModel", "listen", "(I)V"⟩, 41), (⟨"MeshFieldModel", "work", "(I)V"⟩, 41), (⟨"MeshFieldModel", "tell", "(III)V"⟩, 41), (⟨"MeshFieldModel", "mix", "(II)V"⟩, 41), (⟨"MeshFieldModel", "finish", "(I)V"⟩, 41)]
theorem lw_r2 : ∀ q ∈ lw_privs_2, lw_okq q := List.forall_mem_cons.mpr ⟨lw_p16, List.forall_mem_cons.mpr ⟨lw_p17, List.forall_mem_cons.mpr ⟨lw_p18, List.forall_mem_cons.mpr ⟨lw_p19, List.forall_mem_cons.mpr ⟨lw_p20, List.forall_mem_cons.mpr ⟨lw_p21, List.forall_mem_cons.mpr ⟨lw_p22, List.forall_mem_cons.mpr ⟨lw_p23, List.forall_mem_cons.mpr ⟨lw_p24, List.forall_mem_cons.mpr ⟨lw_p25, List.forall_mem_cons.mpr ⟨lw_p26, List.forall_mem_cons.mpr ⟨lw_p27, List.forall_mem_cons.mpr ⟨lw_p28, List.forall_mem_cons.mpr ⟨lw_p29, List.forall_mem_cons.mpr ⟨lw_p30, List.forall_mem_cons.mpr ⟨lw_p31, fun _ h => absurd h List.not_mem_nil⟩⟩⟩⟩⟩⟩⟩⟩⟩⟩⟩⟩⟩⟩⟩⟩
theorem lw_p32 : lw_okq (⟨"MeshFieldModel", "isWhole", "(I)Z"⟩, 41) := ⟨⟨by decide +kernel, by decide +kernel⟩, List.mem_of_getElem? (i := 473) (by decide +kernel), List.mem_of_getElem? (i := 713) (by decide +kernel), List.mem_of_getElem? (i := 714) (by decide +kernel)⟩
theorem lw_p33 : lw_okq (⟨"MeshFieldModel", "look", "()V"⟩, 41) := ⟨⟨by decide +kernel, by decide +kernel⟩, List.mem_of_getElem? (i := 473) (by decide +kernel), List.mem_of_getElem? (i := 717) (by decide +kernel), List.mem_of_getElem? (i := 718) (by decide +kernel)⟩
theorem lw_p34 : lw_okq (⟨"MeshFieldModel", "greatestKept", "()I"⟩, 41) := ⟨⟨by decide +kernel, by decide +kernel⟩, List.mem_of_getElem? (i := 473) (by decide +kernel), List.mem_of_getElem? (i := 721) (by decide +kernel), List.mem_of_getElem? (i := 722) (by decide +kernel)⟩
theorem lw_p35 : lw_okq (⟨"MeshFieldModel", "headOf", "(II)I"⟩, 41) := ⟨⟨by decide +kernel, by decide +kernel⟩, List.mem_of_getElem? (i := 473) (by decide +kernel), List.mem_of_getElem? (i := 729) (by decide +kernel), List.mem_of_getElem? (i := 730) (by decide +kernel)⟩
def lw_privs_3 : List (MethodName × Nat) := [(⟨"MeshFieldModel", "isWhole", "(I)Z"⟩, 41), (⟨"MeshFieldModel", "look", "()V"⟩, 41), (⟨"MeshFieldModel", "greatestKept", "()I"⟩, 41), (⟨"MeshFieldModel", "headOf", "(II)I"⟩, 41)]
theorem lw_r3 : ∀ q ∈ lw_privs_3, lw_okq q := List.forall_mem_cons.mpr ⟨lw_p32, List.forall_mem_cons.mpr ⟨lw_p33, List.forall_mem_cons.mpr ⟨lw_p34, List.forall_mem_cons.mpr ⟨lw_p35, fun _ h => absurd h List.not_mem_nil⟩⟩⟩⟩
def lw_privs : List (MethodName × Nat) := lw_privs_1 ++ (lw_privs_2 ++ (lw_privs_3))
def lw_tbl : List Cond := k2_sels lw_privs ++ tables_1
theorem lw_privs_ok : ∀ q ∈ lw_privs, lw_okq q := by
  show ∀ q ∈ lw_privs_1 ++ (lw_privs_2 ++ (lw_privs_3)), lw_okq q
  exact List.forall_mem_append.mpr ⟨lw_r1, List.forall_mem_append.mpr ⟨lw_r2, lw_r3⟩⟩
end
section
/-! ===== BEGIN words of one list among another's, by their places ===== -/
theorem goodIn_r {big : List Cond} (ws : List Cond) (ps : List Nat) (hp : ws = ps.filterMap (fun i => big[i]?)) (h : ws.all goodWord = true) : GoodIn big ws := by
  intro w hw
  have h1 := List.all_eq_true.mp h w hw
  rw [hp] at hw
  obtain ⟨i, -, hi⟩ := List.mem_filterMap.mp hw
  have hm : w ∈ big := by first | exact List.mem_of_getElem? hi | exact List.getElem?_mem hi
  exact ⟨hm, good_of_word h1⟩
theorem goodIn_app {big a b : List Cond} (ha : GoodIn big a) (hb : GoodIn big b) : GoodIn big (a ++ b) := fun w h => (List.mem_append.mp h).elim (ha w) (hb w)
theorem goodIn_ca {big a b : List Cond} {c : Cond} (ha : GoodIn big (c :: a)) (hb : GoodIn big b) : GoodIn big (c :: (a ++ b)) := fun w h => (List.mem_cons.mp h).elim (fun e => ha w (List.mem_cons.mpr (Or.inl e))) (fun h => (List.mem_append.mp h).elim (fun h => ha w (List.mem_cons.mpr (Or.inr h))) (hb w))
theorem goodIn_sub {big ws : List Cond} (hm : ∀ w ∈ ws, w ∈ big) (h : ws.all goodWord = true) : GoodIn big ws := fun w hw => ⟨hm w hw, good_of_word (List.all_eq_true.mp h w hw)⟩
/-! ===== END ===== -/

/-! ===== BEGIN printed: names, fields, word lists, decode rows ===== -/
def RX0 : String := "MeshField$Basis"
def TX0 : u_T := fun k => match k with
  | 0 => ("MeshField$Basis", "masks", "[I", true)
  | 1 => ("MeshField$Basis", "mixed", "[I", true)
  | _ => ("MeshField$Basis", "rank", "I", false)
def tyX0 : Nat → FieldType := fun k => match k with
  | 0 => .array .int
  | 1 => .array .int
  | _ => .int
abbrev wsX00 : List Cond := u_ws RX0 TX0 3
theorem nmX0 : ∀ a, a < 3 → ∀ b, b < 3 → a ≠ b → (TX0 a).2.1 ≠ (TX0 b).2.1 := by decide +kernel
theorem tyX0_ok : ∀ k, k < 3 → parseFieldDescriptor (TX0 k).2.2.1 = some (tyX0 k) := by decide +kernel
abbrev cX0_init : ByteArray := prog_2_method_1_code
def yX0_init : MethodName := ⟨RX0, "<init>", "()V"⟩
abbrev cX0_empty : ByteArray := prog_2_method_2_code
def yX0_empty : MethodName := ⟨RX0, "empty", "()V"⟩
abbrev cX0_takeIn : ByteArray := prog_2_method_3_code
def yX0_takeIn : MethodName := ⟨RX0, "takeIn", "(II)Z"⟩
abbrev cX0_tearLeast : ByteArray := prog_2_method_4_code
def yX0_tearLeast : MethodName := ⟨RX0, "tearLeast", "()V"⟩
abbrev cX0_mixInto : ByteArray := prog_2_method_5_code
def yX0_mixInto : MethodName := ⟨RX0, "mixInto", "(LMeshField$Letter;I)V"⟩
abbrev cX0_sumOfPieces : ByteArray := prog_2_method_6_code
def yX0_sumOfPieces : MethodName := ⟨RX0, "sumOfPieces", "()I"⟩
abbrev cX0_maskOfNth : ByteArray := prog_2_method_7_code
def yX0_maskOfNth : MethodName := ⟨RX0, "maskOfNth", "(I)I"⟩
abbrev cX0_dataOfNth : ByteArray := prog_2_method_8_code
def yX0_dataOfNth : MethodName := ⟨RX0, "dataOfNth", "(I)I"⟩
abbrev cX0_headOfNth : ByteArray := prog_2_method_9_code
def yX0_headOfNth : MethodName := ⟨RX0, "headOfNth", "(I)I"⟩
abbrev cX0_headOf : ByteArray := prog_2_method_10_code
def yX0_headOf : MethodName := ⟨RX0, "headOf", "(I)I"⟩
abbrev cX0_has : ByteArray := prog_2_method_11_code
def yX0_has : MethodName := ⟨RX0, "has", "(II)Z"⟩
def RX1 : String := "MeshField$Draws"
def TX1 : u_T := fun k => match k with
  | _ => ("MeshField$Draws", "state", "I", false)
def tyX1 : Nat → FieldType := fun k => match k with
  | _ => .int
abbrev wsX10 : List Cond := u_ws RX1 TX1 1
theorem nmX1 : ∀ a, a < 1 → ∀ b, b < 1 → a ≠ b → (TX1 a).2.1 ≠ (TX1 b).2.1 := by decide +kernel
theorem tyX1_ok : ∀ k, k < 1 → parseFieldDescriptor (TX1 k).2.2.1 = some (tyX1 k) := by decide +kernel
abbrev cX1_init : ByteArray := prog_3_method_1_code
def yX1_init : MethodName := ⟨RX1, "<init>", "()V"⟩
abbrev cX1_below : ByteArray := prog_3_method_2_code
def yX1_below : MethodName := ⟨RX1, "below", "(I)I"⟩
def RX2 : String := "MeshField$Interval"
def TX2 : u_T := fun k => match k with
  | 0 => ("MeshField$Interval", "span", "I", false)
  | 1 => ("MeshField$Interval", "began", "I", false)
  | 2 => ("MeshField$Interval", "tellsAt", "I", false)
  | _ => ("MeshField$Interval", "heard", "I", false)
def tyX2 : Nat → FieldType := fun k => match k with
  | 0 => .int
  | 1 => .int
  | 2 => .int
  | _ => .int
abbrev wsX20 : List Cond := u_ws RX2 TX2 4
theorem nmX2 : ∀ a, a < 4 → ∀ b, b < 4 → a ≠ b → (TX2 a).2.1 ≠ (TX2 b).2.1 := by decide +kernel
theorem tyX2_ok : ∀ k, k < 4 → parseFieldDescriptor (TX2 k).2.2.1 = some (tyX2 k) := by decide +kernel
abbrev cX2_init : ByteArray := prog_4_method_1_code
def yX2_init : MethodName := ⟨RX2, "<init>", "()V"⟩
abbrev cX2_begin : ByteArray := prog_4_method_2_code
def yX2_begin : MethodName := ⟨RX2, "begin", "(IILMeshField$Draws;)V"⟩
def RX3 : String := "MeshField$Letter"
def TX3 : u_T := fun k => match k with
  | 0 => ("MeshField$Letter", "kind", "I", false)
  | 1 => ("MeshField$Letter", "number", "I", false)
  | 2 => ("MeshField$Letter", "rank", "I", false)
  | 3 => ("MeshField$Letter", "pieces", "I", false)
  | 4 => ("MeshField$Letter", "programSum", "I", false)
  | 5 => ("MeshField$Letter", "mask", "I", false)
  | 6 => ("MeshField$Letter", "mixed", "I", false)
  | 7 => ("MeshField$Letter", "turnNumber", "I", false)
  | _ => ("MeshField$Letter", "turnTick", "I", false)
def tyX3 : Nat → FieldType := fun k => match k with
  | 0 => .int
  | 1 => .int
  | 2 => .int
  | 3 => .int
  | 4 => .int
  | 5 => .int
  | 6 => .int
  | 7 => .int
  | _ => .int
abbrev wsX30 : List Cond := u_ws RX3 TX3 9
theorem nmX3 : ∀ a, a < 9 → ∀ b, b < 9 → a ≠ b → (TX3 a).2.1 ≠ (TX3 b).2.1 := by decide +kernel
theorem tyX3_ok : ∀ k, k < 9 → parseFieldDescriptor (TX3 k).2.2.1 = some (tyX3 k) := by decide +kernel
abbrev cX3_init : ByteArray := prog_5_method_1_code
def yX3_init : MethodName := ⟨RX3, "<init>", "()V"⟩
abbrev cX3_isSent : ByteArray := prog_5_method_2_code
def yX3_isSent : MethodName := ⟨RX3, "isSent", "()Z"⟩
def RX4 : String := "MeshField$Machine"
def TX4 : u_T := fun k => match k with
  | 0 => ("MeshField$Machine", "rules", "LMeshField$Rules;", true)
  | 1 => ("MeshField$Machine", "draws", "LMeshField$Draws;", true)
  | 2 => ("MeshField$Machine", "basis", "LMeshField$Basis;", true)
  | 3 => ("MeshField$Machine", "interval", "LMeshField$Interval;", true)
  | 4 => ("MeshField$Machine", "letter", "LMeshField$Letter;", true)
  | 5 => ("MeshField$Machine", "caught", "LMeshField$Letter;", false)
  | 6 => ("MeshField$Machine", "number", "I", false)
  | 7 => ("MeshField$Machine", "pieces", "I", false)
  | 8 => ("MeshField$Machine", "keptSum", "I", false)
  | 9 => ("MeshField$Machine", "runs", "I", false)
  | 10 => ("MeshField$Machine", "dataAt", "I", false)
  | 11 => ("MeshField$Machine", "turnNumber", "I", false)
  | 12 => ("MeshField$Machine", "turnTick", "I", false)
  | 13 => ("MeshField$Machine", "tellsSent", "I", false)
  | 14 => ("MeshField$Machine", "mixesSent", "I", false)
  | 15 => ("MeshField$Machine", "spoilt", "I", false)
  | 16 => ("MeshField$Machine", "lost", "I", false)
  | _ => ("MeshField$Machine", "lies", "I", false)
def tyX4 : Nat → FieldType := fun k => match k with
  | 0 => .object "MeshField$Rules"
  | 1 => .object "MeshField$Draws"
  | 2 => .object "MeshField$Basis"
  | 3 => .object "MeshField$Interval"
  | 4 => .object "MeshField$Letter"
  | 5 => .object "MeshField$Letter"
  | 6 => .int
  | 7 => .int
  | 8 => .int
  | 9 => .int
  | 10 => .int
  | 11 => .int
  | 12 => .int
  | 13 => .int
  | 14 => .int
  | 15 => .int
  | 16 => .int
  | _ => .int
abbrev wsX40 : List Cond := u_ws RX4 TX4 18
theorem nmX4 : ∀ a, a < 18 → ∀ b, b < 18 → a ≠ b → (TX4 a).2.1 ≠ (TX4 b).2.1 := by decide +kernel
theorem tyX4_ok : ∀ k, k < 18 → parseFieldDescriptor (TX4 k).2.2.1 = some (tyX4 k) := by decide +kernel
abbrev cX4_init : ByteArray := prog_6_method_1_code
def yX4_init : MethodName := ⟨RX4, "<init>", "(LMeshField$Rules;LMeshField$Draws;)V"⟩
abbrev cX4_keepWhole : ByteArray := prog_6_method_2_code
def yX4_keepWhole : MethodName := ⟨RX4, "keepWhole", "(I[II)V"⟩
abbrev cX4_keep : ByteArray := prog_6_method_3_code
def yX4_keep : MethodName := ⟨RX4, "keep", "(III)V"⟩
abbrev cX4_isWhole : ByteArray := prog_6_method_4_code
def yX4_isWhole : MethodName := ⟨RX4, "isWhole", "()Z"⟩
abbrev cX4_isWholeOf : ByteArray := prog_6_method_5_code
def yX4_isWholeOf : MethodName := ⟨RX4, "isWholeOf", "(I)Z"⟩
abbrev cX4_stir : ByteArray := prog_6_method_6_code
def yX4_stir : MethodName := ⟨RX4, "stir", "(I)V"⟩
abbrev cX4_takeTurn : ByteArray := prog_6_method_7_code
def yX4_takeTurn : MethodName := ⟨RX4, "takeTurn", "(II)Z"⟩
abbrev cX4_losePower : ByteArray := prog_6_method_8_code
def yX4_losePower : MethodName := ⟨RX4, "losePower", "(ZI)V"⟩
abbrev cX4_send : ByteArray := prog_6_method_9_code
def yX4_send : MethodName := ⟨RX4, "send", "(I)V"⟩
abbrev cX4_address : ByteArray := prog_6_method_10_code
def yX4_address : MethodName := ⟨RX4, "address", "(I)V"⟩
abbrev cX4_take : ByteArray := prog_6_method_11_code
def yX4_take : MethodName := ⟨RX4, "take", "(LMeshField$Letter;I)V"⟩
abbrev cX4_takeTell : ByteArray := prog_6_method_12_code
def yX4_takeTell : MethodName := ⟨RX4, "takeTell", "(LMeshField$Letter;I)V"⟩
abbrev cX4_takeMix : ByteArray := prog_6_method_13_code
def yX4_takeMix : MethodName := ⟨RX4, "takeMix", "(LMeshField$Letter;I)V"⟩
abbrev cX4_takeOwnMix : ByteArray := prog_6_method_14_code
def yX4_takeOwnMix : MethodName := ⟨RX4, "takeOwnMix", "(II)Z"⟩
abbrev cX4_end : ByteArray := prog_6_method_15_code
def yX4_end : MethodName := ⟨RX4, "end", "(I)V"⟩
abbrev cX4_answer : ByteArray := prog_6_method_16_code
def yX4_answer : MethodName := ⟨RX4, "answer", "(I)I"⟩
def RX5 : String := "MeshField$Rules"
def TX5 : u_T := fun k => match k with
  | 0 => ("MeshField$Rules", "few", "I", false)
  | 1 => ("MeshField$Rules", "low", "I", false)
  | 2 => ("MeshField$Rules", "high", "I", false)
  | _ => ("MeshField$Rules", "wait", "I", false)
def tyX5 : Nat → FieldType := fun k => match k with
  | 0 => .int
  | 1 => .int
  | 2 => .int
  | _ => .int
abbrev wsX50 : List Cond := u_ws RX5 TX5 4
theorem nmX5 : ∀ a, a < 4 → ∀ b, b < 4 → a ≠ b → (TX5 a).2.1 ≠ (TX5 b).2.1 := by decide +kernel
theorem tyX5_ok : ∀ k, k < 4 → parseFieldDescriptor (TX5 k).2.2.1 = some (tyX5 k) := by decide +kernel
abbrev cX5_init : ByteArray := prog_7_method_1_code
def yX5_init : MethodName := ⟨RX5, "<init>", "()V"⟩
def RX6 : String := "MeshField"
def TX6 : u_T := fun k => match k with
  | 0 => ("MeshField", "draws", "LMeshField$Draws;", true)
  | 1 => ("MeshField", "fieldRules", "LMeshField$Rules;", true)
  | 2 => ("MeshField", "machines", "[LMeshField$Machine;", true)
  | 3 => ("MeshField", "lossOdds", "[I", true)
  | 4 => ("MeshField", "toldPieces", "[I", true)
  | 5 => ("MeshField", "machineCount", "I", false)
  | 6 => ("MeshField", "toldCount", "I", false)
  | 7 => ("MeshField", "now", "I", false)
  | 8 => ("MeshField", "greatestNumber", "I", false)
  | _ => ("MeshField", "allWholeAt", "I", false)
def tyX6 : Nat → FieldType := fun k => match k with
  | 0 => .object "MeshField$Draws"
  | 1 => .object "MeshField$Rules"
  | 2 => .array (.object "MeshField$Machine")
  | 3 => .array .int
  | 4 => .array .int
  | 5 => .int
  | 6 => .int
  | 7 => .int
  | 8 => .int
  | _ => .int
abbrev wsX60 : List Cond := u_ws RX6 TX6 10
theorem nmX6 : ∀ a, a < 10 → ∀ b, b < 10 → a ≠ b → (TX6 a).2.1 ≠ (TX6 b).2.1 := by decide +kernel
theorem tyX6_ok : ∀ k, k < 10 → parseFieldDescriptor (TX6 k).2.2.1 = some (tyX6 k) := by decide +kernel
abbrev cX6_init : ByteArray := prog_1_method_1_code
def yX6_init : MethodName := ⟨RX6, "<init>", "()V"⟩
abbrev cX6_seed : ByteArray := prog_1_method_2_code
def yX6_seed : MethodName := ⟨RX6, "seed", "(I)V"⟩
abbrev cX6_rules : ByteArray := prog_1_method_3_code
def yX6_rules : MethodName := ⟨RX6, "rules", "(IIII)Z"⟩
abbrev cX6_machine : ByteArray := prog_1_method_4_code
def yX6_machine : MethodName := ⟨RX6, "machine", "()I"⟩
abbrev cX6_hears : ByteArray := prog_1_method_5_code
def yX6_hears : MethodName := ⟨RX6, "hears", "(III)Z"⟩
abbrev cX6_piece : ByteArray := prog_1_method_6_code
def yX6_piece : MethodName := ⟨RX6, "piece", "(I)I"⟩
abbrev cX6_load : ByteArray := prog_1_method_7_code
def yX6_load : MethodName := ⟨RX6, "load", "(II)I"⟩
abbrev cX6_turn : ByteArray := prog_1_method_8_code
def yX6_turn : MethodName := ⟨RX6, "turn", "(III)Z"⟩
abbrev cX6_lie : ByteArray := prog_1_method_9_code
def yX6_lie : MethodName := ⟨RX6, "lie", "(III)Z"⟩
abbrev cX6_cut : ByteArray := prog_1_method_10_code
def yX6_cut : MethodName := ⟨RX6, "cut", "(IZ)Z"⟩
abbrev cX6_ticks : ByteArray := prog_1_method_11_code
def yX6_ticks : MethodName := ⟨RX6, "ticks", "(I)I"⟩
abbrev cX6_machineOf : ByteArray := prog_1_method_12_code
def yX6_machineOf : MethodName := ⟨RX6, "machineOf", "(II)I"⟩
abbrev cX6_data : ByteArray := prog_1_method_13_code
def yX6_data : MethodName := ⟨RX6, "data", "(II)I"⟩
abbrev cX6_sum : ByteArray := prog_1_method_14_code
def yX6_sum : MethodName := ⟨RX6, "sum", "(I)I"⟩
abbrev cX6_about : ByteArray := prog_1_method_15_code
def yX6_about : MethodName := ⟨RX6, "about", "(I)I"⟩
abbrev cX6_within : ByteArray := prog_1_method_16_code
def yX6_within : MethodName := ⟨RX6, "within", "(III)Z"⟩
abbrev cX6_machineAt : ByteArray := prog_1_method_17_code
def yX6_machineAt : MethodName := ⟨RX6, "machineAt", "(I)LMeshField$Machine;"⟩
abbrev cX6_pairOf : ByteArray := prog_1_method_18_code
def yX6_pairOf : MethodName := ⟨RX6, "pairOf", "(II)I"⟩
abbrev cX6_oddsBetween : ByteArray := prog_1_method_19_code
def yX6_oddsBetween : MethodName := ⟨RX6, "oddsBetween", "(II)I"⟩
abbrev cX6_sendLetters : ByteArray := prog_1_method_20_code
def yX6_sendLetters : MethodName := ⟨RX6, "sendLetters", "()V"⟩
abbrev cX6_hearLetters : ByteArray := prog_1_method_21_code
def yX6_hearLetters : MethodName := ⟨RX6, "hearLetters", "()V"⟩
abbrev cX6_listen : ByteArray := prog_1_method_22_code
def yX6_listen : MethodName := ⟨RX6, "listen", "(LMeshField$Machine;I)V"⟩
abbrev cX6_letLettersWork : ByteArray := prog_1_method_23_code
def yX6_letLettersWork : MethodName := ⟨RX6, "letLettersWork", "()V"⟩
abbrev cX6_endTick : ByteArray := prog_1_method_24_code
def yX6_endTick : MethodName := ⟨RX6, "endTick", "()V"⟩
abbrev cX6_noteAllWhole : ByteArray := prog_1_method_25_code
def yX6_noteAllWhole : MethodName := ⟨RX6, "noteAllWhole", "()V"⟩
abbrev cX6_lettersSent : ByteArray := prog_1_method_26_code
def yX6_lettersSent : MethodName := ⟨RX6, "lettersSent", "()I"⟩
abbrev cX6_runnersOfGreatest : ByteArray := prog_1_method_27_code
def yX6_runnersOfGreatest : MethodName := ⟨RX6, "runnersOfGreatest", "()I"⟩
def RX7 : String := "MeshFieldModel"
def TX7 : u_T := fun k => match k with
  | 0 => ("MeshFieldModel", "s", "I", false)
  | 1 => ("MeshFieldModel", "few", "I", false)
  | 2 => ("MeshFieldModel", "low", "I", false)
  | 3 => ("MeshFieldModel", "high", "I", false)
  | 4 => ("MeshFieldModel", "wait", "I", false)
  | 5 => ("MeshFieldModel", "machines", "I", false)
  | 6 => ("MeshFieldModel", "tick", "I", false)
  | 7 => ("MeshFieldModel", "sent", "I", false)
  | 8 => ("MeshFieldModel", "pieces", "I", false)
  | 9 => ("MeshFieldModel", "told", "[I", true)
  | 10 => ("MeshFieldModel", "odds", "[I", true)
  | 11 => ("MeshFieldModel", "number", "[I", true)
  | 12 => ("MeshFieldModel", "many", "[I", true)
  | 13 => ("MeshFieldModel", "sum", "[I", true)
  | 14 => ("MeshFieldModel", "mask", "[I", true)
  | 15 => ("MeshFieldModel", "data", "[I", true)
  | 16 => ("MeshFieldModel", "runs", "[I", true)
  | 17 => ("MeshFieldModel", "span", "[I", true)
  | 18 => ("MeshFieldModel", "began", "[I", true)
  | 19 => ("MeshFieldModel", "tellsAt", "[I", true)
  | 20 => ("MeshFieldModel", "heard", "[I", true)
  | 21 => ("MeshFieldModel", "dataAt", "[I", true)
  | 22 => ("MeshFieldModel", "tells", "[I", true)
  | 23 => ("MeshFieldModel", "mixes", "[I", true)
  | 24 => ("MeshFieldModel", "spoilt", "[I", true)
  | 25 => ("MeshFieldModel", "lost", "[I", true)
  | 26 => ("MeshFieldModel", "lies", "[I", true)
  | 27 => ("MeshFieldModel", "turnNumber", "[I", true)
  | 28 => ("MeshFieldModel", "turnTick", "[I", true)
  | 29 => ("MeshFieldModel", "greatest", "I", false)
  | 30 => ("MeshFieldModel", "firstWhole", "I", false)
  | 31 => ("MeshFieldModel", "sends", "[I", true)
  | 32 => ("MeshFieldModel", "letterNumber", "[I", true)
  | 33 => ("MeshFieldModel", "letterMany", "[I", true)
  | 34 => ("MeshFieldModel", "letterSum", "[I", true)
  | 35 => ("MeshFieldModel", "letterRank", "[I", true)
  | 36 => ("MeshFieldModel", "letterMask", "[I", true)
  | 37 => ("MeshFieldModel", "letterData", "[I", true)
  | 38 => ("MeshFieldModel", "letterTurn", "[I", true)
  | 39 => ("MeshFieldModel", "letterTick", "[I", true)
  | _ => ("MeshFieldModel", "from", "[I", true)
def tyX7 : Nat → FieldType := fun k => match k with
  | 0 => .int
  | 1 => .int
  | 2 => .int
  | 3 => .int
  | 4 => .int
  | 5 => .int
  | 6 => .int
  | 7 => .int
  | 8 => .int
  | 9 => .array .int
  | 10 => .array .int
  | 11 => .array .int
  | 12 => .array .int
  | 13 => .array .int
  | 14 => .array .int
  | 15 => .array .int
  | 16 => .array .int
  | 17 => .array .int
  | 18 => .array .int
  | 19 => .array .int
  | 20 => .array .int
  | 21 => .array .int
  | 22 => .array .int
  | 23 => .array .int
  | 24 => .array .int
  | 25 => .array .int
  | 26 => .array .int
  | 27 => .array .int
  | 28 => .array .int
  | 29 => .int
  | 30 => .int
  | 31 => .array .int
  | 32 => .array .int
  | 33 => .array .int
  | 34 => .array .int
  | 35 => .array .int
  | 36 => .array .int
  | 37 => .array .int
  | 38 => .array .int
  | 39 => .array .int
  | _ => .array .int
abbrev wsX70 : List Cond := u_ws RX7 TX7 41
theorem nmX7 : ∀ a, a < 41 → ∀ b, b < 41 → a ≠ b → (TX7 a).2.1 ≠ (TX7 b).2.1 := by decide +kernel
theorem tyX7_ok : ∀ k, k < 41 → parseFieldDescriptor (TX7 k).2.2.1 = some (tyX7 k) := by decide +kernel
abbrev cX7_init : ByteArray := prog_9_method_1_code
def yX7_init : MethodName := ⟨RX7, "<init>", "()V"⟩
abbrev cX7_isIn : ByteArray := prog_9_method_2_code
def yX7_isIn : MethodName := ⟨RX7, "isIn", "(III)Z"⟩
abbrev cX7_isMachine : ByteArray := prog_9_method_3_code
def yX7_isMachine : MethodName := ⟨RX7, "isMachine", "(I)Z"⟩
abbrev cX7_draw : ByteArray := prog_9_method_4_code
def yX7_draw : MethodName := ⟨RX7, "draw", "(I)I"⟩
abbrev cX7_seed : ByteArray := prog_9_method_5_code
def yX7_seed : MethodName := ⟨RX7, "seed", "(I)V"⟩
abbrev cX7_rules : ByteArray := prog_9_method_6_code
def yX7_rules : MethodName := ⟨RX7, "rules", "(IIII)Z"⟩
abbrev cX7_begin : ByteArray := prog_9_method_7_code
def yX7_begin : MethodName := ⟨RX7, "begin", "(II)V"⟩
abbrev cX7_machine : ByteArray := prog_9_method_8_code
def yX7_machine : MethodName := ⟨RX7, "machine", "()I"⟩
abbrev cX7_hears : ByteArray := prog_9_method_9_code
def yX7_hears : MethodName := ⟨RX7, "hears", "(III)Z"⟩
abbrev cX7_piece : ByteArray := prog_9_method_10_code
def yX7_piece : MethodName := ⟨RX7, "piece", "(I)I"⟩
abbrev cX7_rank : ByteArray := prog_9_method_11_code
def yX7_rank : MethodName := ⟨RX7, "rank", "(I)I"⟩
abbrev cX7_isWhole : ByteArray := prog_9_method_12_code
def yX7_isWhole : MethodName := ⟨RX7, "isWhole", "(I)Z"⟩
abbrev cX7_empty : ByteArray := prog_9_method_13_code
def yX7_empty : MethodName := ⟨RX7, "empty", "(I)V"⟩
abbrev cX7_comesIn : ByteArray := prog_9_method_14_code
def yX7_comesIn : MethodName := ⟨RX7, "comesIn", "(III)Z"⟩
abbrev cX7_sumOf : ByteArray := prog_9_method_15_code
def yX7_sumOf : MethodName := ⟨RX7, "sumOf", "(I)I"⟩
abbrev cX7_stir : ByteArray := prog_9_method_16_code
def yX7_stir : MethodName := ⟨RX7, "stir", "(I)V"⟩
abbrev cX7_load : ByteArray := prog_9_method_17_code
def yX7_load : MethodName := ⟨RX7, "load", "(II)I"⟩
abbrev cX7_turn : ByteArray := prog_9_method_18_code
def yX7_turn : MethodName := ⟨RX7, "turn", "(III)Z"⟩
abbrev cX7_own : ByteArray := prog_9_method_19_code
def yX7_own : MethodName := ⟨RX7, "own", "(III)V"⟩
abbrev cX7_lie : ByteArray := prog_9_method_20_code
def yX7_lie : MethodName := ⟨RX7, "lie", "(III)Z"⟩
abbrev cX7_cut : ByteArray := prog_9_method_21_code
def yX7_cut : MethodName := ⟨RX7, "cut", "(IZ)Z"⟩
abbrev cX7_makeMix : ByteArray := prog_9_method_22_code
def yX7_makeMix : MethodName := ⟨RX7, "makeMix", "(I)V"⟩
abbrev cX7_send : ByteArray := prog_9_method_23_code
def yX7_send : MethodName := ⟨RX7, "send", "(I)V"⟩
abbrev cX7_listen : ByteArray := prog_9_method_24_code
def yX7_listen : MethodName := ⟨RX7, "listen", "(I)V"⟩
abbrev cX7_work : ByteArray := prog_9_method_25_code
def yX7_work : MethodName := ⟨RX7, "work", "(I)V"⟩
abbrev cX7_tell : ByteArray := prog_9_method_26_code
def yX7_tell : MethodName := ⟨RX7, "tell", "(III)V"⟩
abbrev cX7_mix : ByteArray := prog_9_method_27_code
def yX7_mix : MethodName := ⟨RX7, "mix", "(II)V"⟩
abbrev cX7_finish : ByteArray := prog_9_method_28_code
def yX7_finish : MethodName := ⟨RX7, "finish", "(I)V"⟩
abbrev cX7_greatestKept : ByteArray := prog_9_method_29_code
def yX7_greatestKept : MethodName := ⟨RX7, "greatestKept", "()I"⟩
abbrev cX7_look : ByteArray := prog_9_method_30_code
def yX7_look : MethodName := ⟨RX7, "look", "()V"⟩
abbrev cX7_ticks : ByteArray := prog_9_method_31_code
def yX7_ticks : MethodName := ⟨RX7, "ticks", "(I)I"⟩
abbrev cX7_headOf : ByteArray := prog_9_method_32_code
def yX7_headOf : MethodName := ⟨RX7, "headOf", "(II)I"⟩
abbrev cX7_machineOf : ByteArray := prog_9_method_33_code
def yX7_machineOf : MethodName := ⟨RX7, "machineOf", "(II)I"⟩
abbrev cX7_data : ByteArray := prog_9_method_34_code
def yX7_data : MethodName := ⟨RX7, "data", "(II)I"⟩
abbrev cX7_sum : ByteArray := prog_9_method_35_code
def yX7_sum : MethodName := ⟨RX7, "sum", "(I)I"⟩
abbrev cX7_about : ByteArray := prog_9_method_36_code
def yX7_about : MethodName := ⟨RX7, "about", "(I)I"⟩
def RJ9 : String := "java/lang/Math"
def TJ9 : u_T := fun k => match k with
  | _ => ("", "", "", false)
def tyJ9 : Nat → FieldType := fun k => match k with
  | _ => .int
abbrev wsJ90 : List Cond := u_ws RJ9 TJ9 0
theorem nmJ9 : ∀ a, a < 0 → ∀ b, b < 0 → a ≠ b → (TJ9 a).2.1 ≠ (TJ9 b).2.1 := by decide +kernel
theorem tyJ9_ok : ∀ k, k < 0 → parseFieldDescriptor (TJ9 k).2.2.1 = some (tyJ9 k) := by decide +kernel
abbrev cJ9_min_7cf53 : ByteArray := prog_10_method_69_code
def yJ9_min_7cf53 : MethodName := ⟨RJ9, "min", "(II)I"⟩
def RJ7 : String := "java/util/Arrays"
def TJ7 : u_T := fun k => match k with
  | _ => ("", "", "", false)
def tyJ7 : Nat → FieldType := fun k => match k with
  | _ => .int
abbrev wsJ70 : List Cond := u_ws RJ7 TJ7 0
theorem nmJ7 : ∀ a, a < 0 → ∀ b, b < 0 → a ≠ b → (TJ7 a).2.1 ≠ (TJ7 b).2.1 := by decide +kernel
theorem tyJ7_ok : ∀ k, k < 0 → parseFieldDescriptor (TJ7 k).2.2.1 = some (tyJ7 k) := by decide +kernel
abbrev cJ7_fill_53178 : ByteArray := prog_11_method_103_code
def yJ7_fill_53178 : MethodName := ⟨RJ7, "fill", "([II)V"⟩
def RL : String := "MeshFieldLaw"
abbrev cL_law : ByteArray := code
def yL_law : MethodName := ⟨RL, "law", "([I)Z"⟩
def wsX0_init : List Cond := .code yX0_init cX0_init 1 none :: ([.methodLink RX0 3 objectInit, .instanceMethod objectInit, .code objectInit ⟨#[0xb1]⟩ 1 none, .arrayClass .int, .fieldLink RX0 9 "MeshField$Basis" "masks" "[I", .fieldLink RX0 15 "MeshField$Basis" "mixed" "[I"] ++ wsX00)
def wsJ7_fill_53178 : List Cond := .code yJ7_fill_53178 cJ7_fill_53178 4 none :: ([])
def wsX0_empty : List Cond := .code yX0_empty cX0_empty 1 none :: ([.fieldLink RX0 9 "MeshField$Basis" "masks" "[I", .fieldLink RX0 15 "MeshField$Basis" "mixed" "[I", .fieldLink RX0 24 "MeshField$Basis" "rank" "I", .methodLink RX0 18 yJ7_fill_53178, .static yJ7_fill_53178, .initialized RJ7, .code yJ7_fill_53178 cJ7_fill_53178 4 none] ++ wsX00)
def wsX0_has : List Cond := .code yX0_has cX0_has 2 (some .boolean) :: ([])
def wsX0_headOf : List Cond := .code yX0_headOf cX0_headOf 2 (some .int) :: ([.methodLink RX0 28 yX0_has, .static yX0_has, .initialized RX0, .code yX0_has cX0_has 2 (some .boolean)])
def wsX0_takeIn : List Cond := .code yX0_takeIn cX0_takeIn 7 (some .boolean) :: ([.fieldLink RX0 9 "MeshField$Basis" "masks" "[I", .fieldLink RX0 15 "MeshField$Basis" "mixed" "[I", .fieldLink RX0 24 "MeshField$Basis" "rank" "I", .methodLink RX0 28 yX0_has, .static yX0_has, .initialized RX0, .code yX0_has cX0_has 2 (some .boolean), .methodLink RX0 32 yX0_headOf, .static yX0_headOf, .code yX0_headOf cX0_headOf 2 (some .int)] ++ wsX00)
def wsX0_tearLeast : List Cond := .code yX0_tearLeast cX0_tearLeast 2 none :: ([.fieldLink RX0 9 "MeshField$Basis" "masks" "[I", .fieldLink RX0 15 "MeshField$Basis" "mixed" "[I", .fieldLink RX0 24 "MeshField$Basis" "rank" "I"] ++ wsX00)
def wsX0_headOfNth : List Cond := .code yX0_headOfNth cX0_headOfNth 4 (some .int) :: ([.fieldLink RX0 9 "MeshField$Basis" "masks" "[I"] ++ wsX00)
def wsX0_maskOfNth : List Cond := .code yX0_maskOfNth cX0_maskOfNth 3 (some .int) :: ([.fieldLink RX0 9 "MeshField$Basis" "masks" "[I", .methodLink RX0 49 yX0_headOfNth, .instanceMethod yX0_headOfNth, .selects RX0 yX0_headOfNth yX0_headOfNth, .initialized RX0, .code yX0_headOfNth cX0_headOfNth 4 (some .int)] ++ wsX00)
def wsX0_dataOfNth : List Cond := .code yX0_dataOfNth cX0_dataOfNth 3 (some .int) :: ([.fieldLink RX0 15 "MeshField$Basis" "mixed" "[I", .methodLink RX0 49 yX0_headOfNth, .instanceMethod yX0_headOfNth, .selects RX0 yX0_headOfNth yX0_headOfNth, .initialized RX0, .code yX0_headOfNth cX0_headOfNth 4 (some .int), .fieldLink RX0 9 "MeshField$Basis" "masks" "[I"] ++ wsX00)
def wsX0_mixInto : List Cond := .code yX0_mixInto cX0_mixInto 5 none :: ([.fieldLink RX0 9 "MeshField$Basis" "masks" "[I", .fieldLink RX0 15 "MeshField$Basis" "mixed" "[I", .methodLink RX0 28 yX0_has, .static yX0_has, .initialized RX0, .code yX0_has cX0_has 2 (some .boolean), .methodLink RX0 43 yX0_maskOfNth, .instanceMethod yX0_maskOfNth, .selects RX0 yX0_maskOfNth yX0_maskOfNth, .code yX0_maskOfNth cX0_maskOfNth 3 (some .int), .methodLink RX0 49 yX0_headOfNth, .instanceMethod yX0_headOfNth, .selects RX0 yX0_headOfNth yX0_headOfNth, .code yX0_headOfNth cX0_headOfNth 4 (some .int), .methodLink RX0 46 yX0_dataOfNth, .instanceMethod yX0_dataOfNth, .selects RX0 yX0_dataOfNth yX0_dataOfNth, .code yX0_dataOfNth cX0_dataOfNth 3 (some .int)] ++ wsX30 ++ wsX00)
def wsX0_sumOfPieces : List Cond := .code yX0_sumOfPieces cX0_sumOfPieces 3 (some .int) :: ([.fieldLink RX0 15 "MeshField$Basis" "mixed" "[I"] ++ wsX00)
def wsX1_init : List Cond := .code yX1_init cX1_init 1 none :: ([.methodLink RX1 1 objectInit, .instanceMethod objectInit, .code objectInit ⟨#[0xb1]⟩ 1 none, .fieldLink RX1 7 "MeshField$Draws" "state" "I"] ++ wsX10)
def wsX1_below : List Cond := .code yX1_below cX1_below 2 (some .int) :: ([.fieldLink RX1 7 "MeshField$Draws" "state" "I", .constant RX1 13 (1103515245)] ++ wsX10)
def wsX2_init : List Cond := .code yX2_init cX2_init 1 none :: ([.methodLink RX2 1 objectInit, .instanceMethod objectInit, .code objectInit ⟨#[0xb1]⟩ 1 none])
def wsX2_begin : List Cond := .code yX2_begin cX2_begin 4 none :: ([.fieldLink RX2 7 "MeshField$Interval" "span" "I", .fieldLink RX2 13 "MeshField$Interval" "began" "I", .fieldLink RX2 16 "MeshField$Interval" "heard" "I", .fieldLink RX2 25 "MeshField$Interval" "tellsAt" "I", .methodLink RX2 19 yX1_below, .instanceMethod yX1_below, .selects RX1 yX1_below yX1_below, .initialized RX1, .code yX1_below cX1_below 2 (some .int), .fieldLink RX1 7 "MeshField$Draws" "state" "I", .constant RX1 13 (1103515245)] ++ wsX20 ++ wsX10)
def wsX3_init : List Cond := .code yX3_init cX3_init 1 none :: ([.methodLink RX3 1 objectInit, .instanceMethod objectInit, .code objectInit ⟨#[0xb1]⟩ 1 none])
def wsX3_isSent : List Cond := .code yX3_isSent cX3_isSent 1 (some .boolean) :: ([.fieldLink RX3 7 "MeshField$Letter" "kind" "I"] ++ wsX30)
def wsX4_init_r1 : List Cond := [Cond.methodLink RX4 3 objectInit, Cond.instanceMethod objectInit, Cond.code objectInit ⟨#[0xb1]⟩ 1 none, Cond.classLink RX4 9 RX0, Cond.instantiable RX0 3, Cond.initialized RX0, Cond.fieldLink RX4 12 "MeshField$Machine" "basis" "LMeshField$Basis;", Cond.classLink RX4 18 RX2, Cond.instantiable RX2 4, Cond.initialized RX2, Cond.fieldLink RX4 21 "MeshField$Machine" "interval" "LMeshField$Interval;", Cond.classLink RX4 25 RX3, Cond.instantiable RX3 9, Cond.initialized RX3, Cond.fieldLink RX4 28 "MeshField$Machine" "letter" "LMeshField$Letter;", Cond.fieldLink RX4 32 "MeshField$Machine" "dataAt" "I", Cond.fieldLink RX4 36 "MeshField$Machine" "rules" "LMeshField$Rules;", Cond.fieldLink RX4 40 "MeshField$Machine" "draws" "LMeshField$Draws;", Cond.instanceMethod yX0_init, Cond.code yX0_init cX0_init 1 none, Cond.methodLink RX0 3 objectInit, Cond.arrayClass .int, Cond.fieldLink RX0 9 "MeshField$Basis" "masks" "[I", Cond.fieldLink RX0 15 "MeshField$Basis" "mixed" "[I"]
def wsX4_init_r2 : List Cond := [Cond.instanceMethod yX2_init, Cond.code yX2_init cX2_init 1 none, Cond.methodLink RX2 1 objectInit, Cond.instanceMethod yX3_init, Cond.code yX3_init cX3_init 1 none, Cond.methodLink RX3 1 objectInit]
def wsX4_init : List Cond := .code yX4_init cX4_init 3 none :: ((wsX4_init_r1 ++ wsX4_init_r2) ++ wsX00 ++ wsX40 ++ wsX20 ++ wsX30)
def wsX4_keep : List Cond := .code yX4_keep cX4_keep 4 none :: ([.fieldLink RX4 59 "MeshField$Machine" "number" "I", .fieldLink RX4 62 "MeshField$Machine" "pieces" "I", .fieldLink RX4 56 "MeshField$Machine" "keptSum" "I", .fieldLink RX4 12 "MeshField$Machine" "basis" "LMeshField$Basis;", .methodLink RX4 65 yX0_empty, .instanceMethod yX0_empty, .selects RX0 yX0_empty yX0_empty, .initialized RX0, .code yX0_empty cX0_empty 1 none, .fieldLink RX0 9 "MeshField$Basis" "masks" "[I", .fieldLink RX0 15 "MeshField$Basis" "mixed" "[I", .fieldLink RX0 24 "MeshField$Basis" "rank" "I", .methodLink RX0 18 yJ7_fill_53178, .static yJ7_fill_53178, .initialized RJ7, .code yJ7_fill_53178 cJ7_fill_53178 4 none] ++ wsX40 ++ wsX00)
def wsX4_keepWhole_r1 : List Cond := [Cond.fieldLink RX4 12 "MeshField$Machine" "basis" "LMeshField$Basis;", Cond.fieldLink RX4 56 "MeshField$Machine" "keptSum" "I", Cond.methodLink RX4 44 yX4_keep, Cond.instanceMethod yX4_keep, Cond.selects RX4 yX4_keep yX4_keep, Cond.initialized RX4, Cond.code yX4_keep cX4_keep 4 none, Cond.fieldLink RX4 59 "MeshField$Machine" "number" "I", Cond.fieldLink RX4 62 "MeshField$Machine" "pieces" "I", Cond.methodLink RX4 65 yX0_empty, Cond.instanceMethod yX0_empty, Cond.selects RX0 yX0_empty yX0_empty, Cond.initialized RX0, Cond.code yX0_empty cX0_empty 1 none, Cond.fieldLink RX0 9 "MeshField$Basis" "masks" "[I", Cond.fieldLink RX0 15 "MeshField$Basis" "mixed" "[I", Cond.fieldLink RX0 24 "MeshField$Basis" "rank" "I", Cond.methodLink RX0 18 yJ7_fill_53178, Cond.static yJ7_fill_53178, Cond.initialized RJ7, Cond.code yJ7_fill_53178 cJ7_fill_53178 4 none, Cond.methodLink RX4 48 yX0_takeIn, Cond.instanceMethod yX0_takeIn, Cond.selects RX0 yX0_takeIn yX0_takeIn]
def wsX4_keepWhole_r2 : List Cond := [Cond.code yX0_takeIn cX0_takeIn 7 (some .boolean), Cond.methodLink RX0 28 yX0_has, Cond.static yX0_has, Cond.code yX0_has cX0_has 2 (some .boolean), Cond.methodLink RX0 32 yX0_headOf, Cond.static yX0_headOf, Cond.code yX0_headOf cX0_headOf 2 (some .int), Cond.methodLink RX4 52 yX0_sumOfPieces, Cond.instanceMethod yX0_sumOfPieces, Cond.selects RX0 yX0_sumOfPieces yX0_sumOfPieces, Cond.code yX0_sumOfPieces cX0_sumOfPieces 3 (some .int)]
def wsX4_keepWhole : List Cond := .code yX4_keepWhole cX4_keepWhole 5 none :: ((wsX4_keepWhole_r1 ++ wsX4_keepWhole_r2) ++ wsX40 ++ wsX00)
def wsX4_isWhole : List Cond := .code yX4_isWhole cX4_isWhole 1 (some .boolean) :: ([.fieldLink RX4 59 "MeshField$Machine" "number" "I", .fieldLink RX4 12 "MeshField$Machine" "basis" "LMeshField$Basis;", .fieldLink RX4 62 "MeshField$Machine" "pieces" "I"] ++ wsX40 ++ wsX00)
def wsX4_isWholeOf : List Cond := .code yX4_isWholeOf cX4_isWholeOf 2 (some .boolean) :: ([.fieldLink RX4 59 "MeshField$Machine" "number" "I", .methodLink RX4 71 yX4_isWhole, .instanceMethod yX4_isWhole, .selects RX4 yX4_isWhole yX4_isWhole, .initialized RX4, .code yX4_isWhole cX4_isWhole 1 (some .boolean), .fieldLink RX4 12 "MeshField$Machine" "basis" "LMeshField$Basis;", .fieldLink RX4 62 "MeshField$Machine" "pieces" "I"] ++ wsX40 ++ wsX00)
def wsX4_stir : List Cond := .code yX4_stir cX4_stir 2 none :: ([.fieldLink RX4 21 "MeshField$Machine" "interval" "LMeshField$Interval;", .fieldLink RX4 36 "MeshField$Machine" "rules" "LMeshField$Rules;", .fieldLink RX4 40 "MeshField$Machine" "draws" "LMeshField$Draws;", .methodLink RX4 83 yX2_begin, .instanceMethod yX2_begin, .selects RX2 yX2_begin yX2_begin, .initialized RX2, .code yX2_begin cX2_begin 4 none, .fieldLink RX2 7 "MeshField$Interval" "span" "I", .fieldLink RX2 13 "MeshField$Interval" "began" "I", .fieldLink RX2 16 "MeshField$Interval" "heard" "I", .fieldLink RX2 25 "MeshField$Interval" "tellsAt" "I", .methodLink RX2 19 yX1_below, .instanceMethod yX1_below, .selects RX1 yX1_below yX1_below, .initialized RX1, .code yX1_below cX1_below 2 (some .int), .fieldLink RX1 7 "MeshField$Draws" "state" "I", .constant RX1 13 (1103515245)] ++ wsX40 ++ wsX20 ++ wsX50 ++ wsX10)
def wsX4_takeTurn : List Cond := .code yX4_takeTurn cX4_takeTurn 3 (some .boolean) :: ([.fieldLink RX4 87 "MeshField$Machine" "turnNumber" "I", .fieldLink RX4 90 "MeshField$Machine" "turnTick" "I"] ++ wsX40)
def wsX4_losePower_r1 : List Cond := [Cond.fieldLink RX4 12 "MeshField$Machine" "basis" "LMeshField$Basis;", Cond.fieldLink RX4 21 "MeshField$Machine" "interval" "LMeshField$Interval;", Cond.fieldLink RX4 36 "MeshField$Machine" "rules" "LMeshField$Rules;", Cond.fieldLink RX4 40 "MeshField$Machine" "draws" "LMeshField$Draws;", Cond.fieldLink RX4 32 "MeshField$Machine" "dataAt" "I", Cond.fieldLink RX4 87 "MeshField$Machine" "turnNumber" "I", Cond.fieldLink RX4 90 "MeshField$Machine" "turnTick" "I", Cond.methodLink RX4 93 yX0_tearLeast, Cond.instanceMethod yX0_tearLeast, Cond.selects RX0 yX0_tearLeast yX0_tearLeast, Cond.initialized RX0, Cond.code yX0_tearLeast cX0_tearLeast 2 none, Cond.fieldLink RX0 9 "MeshField$Basis" "masks" "[I", Cond.fieldLink RX0 15 "MeshField$Basis" "mixed" "[I", Cond.fieldLink RX0 24 "MeshField$Basis" "rank" "I", Cond.methodLink RX4 83 yX2_begin, Cond.instanceMethod yX2_begin, Cond.selects RX2 yX2_begin yX2_begin, Cond.initialized RX2, Cond.code yX2_begin cX2_begin 4 none, Cond.fieldLink RX2 7 "MeshField$Interval" "span" "I", Cond.fieldLink RX2 13 "MeshField$Interval" "began" "I", Cond.fieldLink RX2 16 "MeshField$Interval" "heard" "I", Cond.fieldLink RX2 25 "MeshField$Interval" "tellsAt" "I"]
def wsX4_losePower_r2 : List Cond := [Cond.methodLink RX2 19 yX1_below, Cond.instanceMethod yX1_below, Cond.selects RX1 yX1_below yX1_below, Cond.initialized RX1, Cond.code yX1_below cX1_below 2 (some .int), Cond.fieldLink RX1 7 "MeshField$Draws" "state" "I", Cond.constant RX1 13 (1103515245)]
def wsX4_losePower : List Cond := .code yX4_losePower cX4_losePower 3 none :: ((wsX4_losePower_r1 ++ wsX4_losePower_r2) ++ wsX40 ++ wsX50 ++ wsX00 ++ wsX20 ++ wsX10)
def wsX4_address : List Cond := .code yX4_address cX4_address 2 none :: ([.fieldLink RX4 28 "MeshField$Machine" "letter" "LMeshField$Letter;", .fieldLink RX4 59 "MeshField$Machine" "number" "I", .fieldLink RX4 12 "MeshField$Machine" "basis" "LMeshField$Basis;", .fieldLink RX4 62 "MeshField$Machine" "pieces" "I", .fieldLink RX4 56 "MeshField$Machine" "keptSum" "I", .fieldLink RX4 87 "MeshField$Machine" "turnNumber" "I", .fieldLink RX4 90 "MeshField$Machine" "turnTick" "I"] ++ wsX40 ++ wsX30 ++ wsX00)
def wsX4_send_r1 : List Cond := [Cond.fieldLink RX4 32 "MeshField$Machine" "dataAt" "I", Cond.fieldLink RX4 12 "MeshField$Machine" "basis" "LMeshField$Basis;", Cond.fieldLink RX4 28 "MeshField$Machine" "letter" "LMeshField$Letter;", Cond.fieldLink RX4 40 "MeshField$Machine" "draws" "LMeshField$Draws;", Cond.fieldLink RX4 110 "MeshField$Machine" "mixesSent" "I", Cond.fieldLink RX4 21 "MeshField$Machine" "interval" "LMeshField$Interval;", Cond.fieldLink RX4 36 "MeshField$Machine" "rules" "LMeshField$Rules;", Cond.fieldLink RX4 122 "MeshField$Machine" "tellsSent" "I", Cond.methodLink RX4 96 yX1_below, Cond.instanceMethod yX1_below, Cond.selects RX1 yX1_below yX1_below, Cond.initialized RX1, Cond.code yX1_below cX1_below 2 (some .int), Cond.fieldLink RX1 7 "MeshField$Draws" "state" "I", Cond.constant RX1 13 (1103515245), Cond.methodLink RX4 102 yX0_mixInto, Cond.instanceMethod yX0_mixInto, Cond.selects RX0 yX0_mixInto yX0_mixInto, Cond.initialized RX0, Cond.code yX0_mixInto cX0_mixInto 5 none, Cond.fieldLink RX0 9 "MeshField$Basis" "masks" "[I", Cond.fieldLink RX0 15 "MeshField$Basis" "mixed" "[I", Cond.methodLink RX0 28 yX0_has, Cond.static yX0_has]
def wsX4_send_r2 : List Cond := [Cond.code yX0_has cX0_has 2 (some .boolean), Cond.methodLink RX0 43 yX0_maskOfNth, Cond.instanceMethod yX0_maskOfNth, Cond.selects RX0 yX0_maskOfNth yX0_maskOfNth, Cond.code yX0_maskOfNth cX0_maskOfNth 3 (some .int), Cond.methodLink RX0 49 yX0_headOfNth, Cond.instanceMethod yX0_headOfNth, Cond.selects RX0 yX0_headOfNth yX0_headOfNth, Cond.code yX0_headOfNth cX0_headOfNth 4 (some .int), Cond.methodLink RX0 46 yX0_dataOfNth, Cond.instanceMethod yX0_dataOfNth, Cond.selects RX0 yX0_dataOfNth yX0_dataOfNth, Cond.code yX0_dataOfNth cX0_dataOfNth 3 (some .int), Cond.methodLink RX4 106 yX4_address, Cond.instanceMethod yX4_address, Cond.selects RX4 yX4_address yX4_address, Cond.initialized RX4, Cond.code yX4_address cX4_address 2 none, Cond.fieldLink RX4 59 "MeshField$Machine" "number" "I", Cond.fieldLink RX4 62 "MeshField$Machine" "pieces" "I", Cond.fieldLink RX4 56 "MeshField$Machine" "keptSum" "I", Cond.fieldLink RX4 87 "MeshField$Machine" "turnNumber" "I", Cond.fieldLink RX4 90 "MeshField$Machine" "turnTick" "I"]
def wsX4_send : List Cond := .code yX4_send cX4_send 3 none :: ((wsX4_send_r1 ++ wsX4_send_r2) ++ wsX40 ++ wsX00 ++ wsX20 ++ wsX50 ++ wsX30 ++ wsX10)
def wsX4_takeTell_r1 : List Cond := [Cond.fieldLink RX4 59 "MeshField$Machine" "number" "I", Cond.fieldLink RX4 12 "MeshField$Machine" "basis" "LMeshField$Basis;", Cond.fieldLink RX4 21 "MeshField$Machine" "interval" "LMeshField$Interval;", Cond.fieldLink RX4 32 "MeshField$Machine" "dataAt" "I", Cond.fieldLink RX4 40 "MeshField$Machine" "draws" "LMeshField$Draws;", Cond.fieldLink RX4 36 "MeshField$Machine" "rules" "LMeshField$Rules;", Cond.methodLink RX4 145 yX4_stir, Cond.instanceMethod yX4_stir, Cond.selects RX4 yX4_stir yX4_stir, Cond.initialized RX4, Cond.code yX4_stir cX4_stir 2 none, Cond.methodLink RX4 83 yX2_begin, Cond.instanceMethod yX2_begin, Cond.selects RX2 yX2_begin yX2_begin, Cond.initialized RX2, Cond.code yX2_begin cX2_begin 4 none, Cond.fieldLink RX2 7 "MeshField$Interval" "span" "I", Cond.fieldLink RX2 13 "MeshField$Interval" "began" "I", Cond.fieldLink RX2 16 "MeshField$Interval" "heard" "I", Cond.fieldLink RX2 25 "MeshField$Interval" "tellsAt" "I", Cond.methodLink RX2 19 yX1_below, Cond.instanceMethod yX1_below, Cond.selects RX1 yX1_below yX1_below, Cond.initialized RX1]
def wsX4_takeTell_r2 : List Cond := [Cond.code yX1_below cX1_below 2 (some .int), Cond.fieldLink RX1 7 "MeshField$Draws" "state" "I", Cond.constant RX1 13 (1103515245), Cond.methodLink RX4 96 yX1_below]
def wsX4_takeTell : List Cond := .code yX4_takeTell cX4_takeTell 4 none :: ((wsX4_takeTell_r1 ++ wsX4_takeTell_r2) ++ wsX30 ++ wsX40 ++ wsX00 ++ wsX20 ++ wsX50 ++ wsX10)
def wsX4_takeOwnMix_r1 : List Cond := [Cond.fieldLink RX4 32 "MeshField$Machine" "dataAt" "I", Cond.fieldLink RX4 12 "MeshField$Machine" "basis" "LMeshField$Basis;", Cond.fieldLink RX4 62 "MeshField$Machine" "pieces" "I", Cond.fieldLink RX4 56 "MeshField$Machine" "keptSum" "I", Cond.fieldLink RX4 160 "MeshField$Machine" "lies" "I", Cond.methodLink RX4 48 yX0_takeIn, Cond.instanceMethod yX0_takeIn, Cond.selects RX0 yX0_takeIn yX0_takeIn, Cond.initialized RX0, Cond.code yX0_takeIn cX0_takeIn 7 (some .boolean), Cond.fieldLink RX0 9 "MeshField$Basis" "masks" "[I", Cond.fieldLink RX0 15 "MeshField$Basis" "mixed" "[I", Cond.fieldLink RX0 24 "MeshField$Basis" "rank" "I", Cond.methodLink RX0 28 yX0_has, Cond.static yX0_has, Cond.code yX0_has cX0_has 2 (some .boolean), Cond.methodLink RX0 32 yX0_headOf, Cond.static yX0_headOf, Cond.code yX0_headOf cX0_headOf 2 (some .int), Cond.methodLink RX4 52 yX0_sumOfPieces, Cond.instanceMethod yX0_sumOfPieces, Cond.selects RX0 yX0_sumOfPieces yX0_sumOfPieces, Cond.code yX0_sumOfPieces cX0_sumOfPieces 3 (some .int), Cond.methodLink RX4 65 yX0_empty]
def wsX4_takeOwnMix_r2 : List Cond := [Cond.instanceMethod yX0_empty, Cond.selects RX0 yX0_empty yX0_empty, Cond.code yX0_empty cX0_empty 1 none, Cond.methodLink RX0 18 yJ7_fill_53178, Cond.static yJ7_fill_53178, Cond.initialized RJ7, Cond.code yJ7_fill_53178 cJ7_fill_53178 4 none]
def wsX4_takeOwnMix : List Cond := .code yX4_takeOwnMix cX4_takeOwnMix 3 (some .boolean) :: ((wsX4_takeOwnMix_r1 ++ wsX4_takeOwnMix_r2) ++ wsX40 ++ wsX00)
def wsX4_takeMix_r1 : List Cond := [Cond.fieldLink RX4 59 "MeshField$Machine" "number" "I", Cond.fieldLink RX4 62 "MeshField$Machine" "pieces" "I", Cond.fieldLink RX4 56 "MeshField$Machine" "keptSum" "I", Cond.methodLink RX4 44 yX4_keep, Cond.instanceMethod yX4_keep, Cond.selects RX4 yX4_keep yX4_keep, Cond.initialized RX4, Cond.code yX4_keep cX4_keep 4 none, Cond.fieldLink RX4 12 "MeshField$Machine" "basis" "LMeshField$Basis;", Cond.methodLink RX4 65 yX0_empty, Cond.instanceMethod yX0_empty, Cond.selects RX0 yX0_empty yX0_empty, Cond.initialized RX0, Cond.code yX0_empty cX0_empty 1 none, Cond.fieldLink RX0 9 "MeshField$Basis" "masks" "[I", Cond.fieldLink RX0 15 "MeshField$Basis" "mixed" "[I", Cond.fieldLink RX0 24 "MeshField$Basis" "rank" "I", Cond.methodLink RX0 18 yJ7_fill_53178, Cond.static yJ7_fill_53178, Cond.initialized RJ7, Cond.code yJ7_fill_53178 cJ7_fill_53178 4 none, Cond.methodLink RX4 157 yX4_takeOwnMix, Cond.instanceMethod yX4_takeOwnMix, Cond.selects RX4 yX4_takeOwnMix yX4_takeOwnMix]
def wsX4_takeMix_r2 : List Cond := [Cond.code yX4_takeOwnMix cX4_takeOwnMix 3 (some .boolean), Cond.fieldLink RX4 32 "MeshField$Machine" "dataAt" "I", Cond.fieldLink RX4 160 "MeshField$Machine" "lies" "I", Cond.methodLink RX4 48 yX0_takeIn, Cond.instanceMethod yX0_takeIn, Cond.selects RX0 yX0_takeIn yX0_takeIn, Cond.code yX0_takeIn cX0_takeIn 7 (some .boolean), Cond.methodLink RX0 28 yX0_has, Cond.static yX0_has, Cond.code yX0_has cX0_has 2 (some .boolean), Cond.methodLink RX0 32 yX0_headOf, Cond.static yX0_headOf, Cond.code yX0_headOf cX0_headOf 2 (some .int), Cond.methodLink RX4 52 yX0_sumOfPieces, Cond.instanceMethod yX0_sumOfPieces, Cond.selects RX0 yX0_sumOfPieces yX0_sumOfPieces, Cond.code yX0_sumOfPieces cX0_sumOfPieces 3 (some .int), Cond.methodLink RX4 145 yX4_stir, Cond.instanceMethod yX4_stir, Cond.selects RX4 yX4_stir yX4_stir, Cond.code yX4_stir cX4_stir 2 none, Cond.fieldLink RX4 21 "MeshField$Machine" "interval" "LMeshField$Interval;", Cond.fieldLink RX4 36 "MeshField$Machine" "rules" "LMeshField$Rules;", Cond.fieldLink RX4 40 "MeshField$Machine" "draws" "LMeshField$Draws;"]
def wsX4_takeMix_r3 : List Cond := [Cond.methodLink RX4 83 yX2_begin, Cond.instanceMethod yX2_begin, Cond.selects RX2 yX2_begin yX2_begin, Cond.initialized RX2, Cond.code yX2_begin cX2_begin 4 none, Cond.fieldLink RX2 7 "MeshField$Interval" "span" "I", Cond.fieldLink RX2 13 "MeshField$Interval" "began" "I", Cond.fieldLink RX2 16 "MeshField$Interval" "heard" "I", Cond.fieldLink RX2 25 "MeshField$Interval" "tellsAt" "I", Cond.methodLink RX2 19 yX1_below, Cond.instanceMethod yX1_below, Cond.selects RX1 yX1_below yX1_below, Cond.initialized RX1, Cond.code yX1_below cX1_below 2 (some .int), Cond.fieldLink RX1 7 "MeshField$Draws" "state" "I", Cond.constant RX1 13 (1103515245)]
def wsX4_takeMix : List Cond := .code yX4_takeMix cX4_takeMix 4 none :: ((wsX4_takeMix_r1 ++ (wsX4_takeMix_r2 ++ wsX4_takeMix_r3)) ++ wsX30 ++ wsX40 ++ wsX00 ++ wsX20 ++ wsX50 ++ wsX10)
def wsX4_take_r1 : List Cond := [Cond.methodLink RX4 136 yX4_takeTurn, Cond.instanceMethod yX4_takeTurn, Cond.selects RX4 yX4_takeTurn yX4_takeTurn, Cond.initialized RX4, Cond.code yX4_takeTurn cX4_takeTurn 3 (some .boolean), Cond.fieldLink RX4 87 "MeshField$Machine" "turnNumber" "I", Cond.fieldLink RX4 90 "MeshField$Machine" "turnTick" "I", Cond.methodLink RX4 139 yX4_takeTell, Cond.instanceMethod yX4_takeTell, Cond.selects RX4 yX4_takeTell yX4_takeTell, Cond.code yX4_takeTell cX4_takeTell 4 none, Cond.fieldLink RX4 59 "MeshField$Machine" "number" "I", Cond.fieldLink RX4 12 "MeshField$Machine" "basis" "LMeshField$Basis;", Cond.fieldLink RX4 21 "MeshField$Machine" "interval" "LMeshField$Interval;", Cond.fieldLink RX4 32 "MeshField$Machine" "dataAt" "I", Cond.fieldLink RX4 40 "MeshField$Machine" "draws" "LMeshField$Draws;", Cond.fieldLink RX4 36 "MeshField$Machine" "rules" "LMeshField$Rules;", Cond.methodLink RX4 145 yX4_stir, Cond.instanceMethod yX4_stir, Cond.selects RX4 yX4_stir yX4_stir, Cond.code yX4_stir cX4_stir 2 none, Cond.methodLink RX4 83 yX2_begin, Cond.instanceMethod yX2_begin, Cond.selects RX2 yX2_begin yX2_begin]
def wsX4_take_r2 : List Cond := [Cond.initialized RX2, Cond.code yX2_begin cX2_begin 4 none, Cond.fieldLink RX2 7 "MeshField$Interval" "span" "I", Cond.fieldLink RX2 13 "MeshField$Interval" "began" "I", Cond.fieldLink RX2 16 "MeshField$Interval" "heard" "I", Cond.fieldLink RX2 25 "MeshField$Interval" "tellsAt" "I", Cond.methodLink RX2 19 yX1_below, Cond.instanceMethod yX1_below, Cond.selects RX1 yX1_below yX1_below, Cond.initialized RX1, Cond.code yX1_below cX1_below 2 (some .int), Cond.fieldLink RX1 7 "MeshField$Draws" "state" "I", Cond.constant RX1 13 (1103515245), Cond.methodLink RX4 96 yX1_below, Cond.methodLink RX4 142 yX4_takeMix, Cond.instanceMethod yX4_takeMix, Cond.selects RX4 yX4_takeMix yX4_takeMix, Cond.code yX4_takeMix cX4_takeMix 4 none, Cond.fieldLink RX4 62 "MeshField$Machine" "pieces" "I", Cond.fieldLink RX4 56 "MeshField$Machine" "keptSum" "I", Cond.methodLink RX4 44 yX4_keep, Cond.instanceMethod yX4_keep, Cond.selects RX4 yX4_keep yX4_keep, Cond.code yX4_keep cX4_keep 4 none]
def wsX4_take_r3 : List Cond := [Cond.methodLink RX4 65 yX0_empty, Cond.instanceMethod yX0_empty, Cond.selects RX0 yX0_empty yX0_empty, Cond.initialized RX0, Cond.code yX0_empty cX0_empty 1 none, Cond.fieldLink RX0 9 "MeshField$Basis" "masks" "[I", Cond.fieldLink RX0 15 "MeshField$Basis" "mixed" "[I", Cond.fieldLink RX0 24 "MeshField$Basis" "rank" "I", Cond.methodLink RX0 18 yJ7_fill_53178, Cond.static yJ7_fill_53178, Cond.initialized RJ7, Cond.code yJ7_fill_53178 cJ7_fill_53178 4 none, Cond.methodLink RX4 157 yX4_takeOwnMix, Cond.instanceMethod yX4_takeOwnMix, Cond.selects RX4 yX4_takeOwnMix yX4_takeOwnMix, Cond.code yX4_takeOwnMix cX4_takeOwnMix 3 (some .boolean), Cond.fieldLink RX4 160 "MeshField$Machine" "lies" "I", Cond.methodLink RX4 48 yX0_takeIn, Cond.instanceMethod yX0_takeIn, Cond.selects RX0 yX0_takeIn yX0_takeIn, Cond.code yX0_takeIn cX0_takeIn 7 (some .boolean), Cond.methodLink RX0 28 yX0_has, Cond.static yX0_has, Cond.code yX0_has cX0_has 2 (some .boolean)]
def wsX4_take_r4 : List Cond := [Cond.methodLink RX0 32 yX0_headOf, Cond.static yX0_headOf, Cond.code yX0_headOf cX0_headOf 2 (some .int), Cond.methodLink RX4 52 yX0_sumOfPieces, Cond.instanceMethod yX0_sumOfPieces, Cond.selects RX0 yX0_sumOfPieces yX0_sumOfPieces, Cond.code yX0_sumOfPieces cX0_sumOfPieces 3 (some .int)]
def wsX4_take : List Cond := .code yX4_take cX4_take 3 none :: ((wsX4_take_r1 ++ (wsX4_take_r2 ++ (wsX4_take_r3 ++ wsX4_take_r4))) ++ wsX30 ++ wsX40 ++ wsX00 ++ wsX20 ++ wsX50 ++ wsX10)
def wsX4_end_r1 : List Cond := [Cond.fieldLink RX4 21 "MeshField$Machine" "interval" "LMeshField$Interval;", Cond.fieldLink RX4 36 "MeshField$Machine" "rules" "LMeshField$Rules;", Cond.methodLink RX4 169 Lib.Math.min.name, Cond.static Lib.Math.min.name, Cond.initialized "java/lang/Math", Cond.code Lib.Math.min.name Lib.Math.min.code 2 (some .int), Cond.fieldLink RX4 40 "MeshField$Machine" "draws" "LMeshField$Draws;", Cond.fieldLink RX4 87 "MeshField$Machine" "turnNumber" "I", Cond.fieldLink RX4 90 "MeshField$Machine" "turnTick" "I", Cond.fieldLink RX4 179 "MeshField$Machine" "runs" "I", Cond.methodLink RX4 83 yX2_begin, Cond.instanceMethod yX2_begin, Cond.selects RX2 yX2_begin yX2_begin, Cond.initialized RX2, Cond.code yX2_begin cX2_begin 4 none, Cond.fieldLink RX2 7 "MeshField$Interval" "span" "I", Cond.fieldLink RX2 13 "MeshField$Interval" "began" "I", Cond.fieldLink RX2 16 "MeshField$Interval" "heard" "I", Cond.fieldLink RX2 25 "MeshField$Interval" "tellsAt" "I", Cond.methodLink RX2 19 yX1_below, Cond.instanceMethod yX1_below, Cond.selects RX1 yX1_below yX1_below, Cond.initialized RX1, Cond.code yX1_below cX1_below 2 (some .int)]
def wsX4_end_r2 : List Cond := [Cond.fieldLink RX1 7 "MeshField$Draws" "state" "I", Cond.constant RX1 13 (1103515245), Cond.methodLink RX4 175 yX4_isWholeOf, Cond.instanceMethod yX4_isWholeOf, Cond.selects RX4 yX4_isWholeOf yX4_isWholeOf, Cond.initialized RX4, Cond.code yX4_isWholeOf cX4_isWholeOf 2 (some .boolean), Cond.fieldLink RX4 59 "MeshField$Machine" "number" "I", Cond.methodLink RX4 71 yX4_isWhole, Cond.instanceMethod yX4_isWhole, Cond.selects RX4 yX4_isWhole yX4_isWhole, Cond.code yX4_isWhole cX4_isWhole 1 (some .boolean), Cond.fieldLink RX4 12 "MeshField$Machine" "basis" "LMeshField$Basis;", Cond.fieldLink RX4 62 "MeshField$Machine" "pieces" "I"]
def wsX4_end : List Cond := .code yX4_end cX4_end 3 none :: ((wsX4_end_r1 ++ wsX4_end_r2) ++ wsX40 ++ wsX20 ++ wsX50 ++ wsX10 ++ wsX00)
def wsX4_answer : List Cond := .code yX4_answer cX4_answer 2 (some .int) :: ([.fieldLink RX4 59 "MeshField$Machine" "number" "I", .fieldLink RX4 62 "MeshField$Machine" "pieces" "I", .fieldLink RX4 12 "MeshField$Machine" "basis" "LMeshField$Basis;", .fieldLink RX4 179 "MeshField$Machine" "runs" "I", .fieldLink RX4 21 "MeshField$Machine" "interval" "LMeshField$Interval;", .fieldLink RX4 32 "MeshField$Machine" "dataAt" "I", .fieldLink RX4 122 "MeshField$Machine" "tellsSent" "I", .fieldLink RX4 110 "MeshField$Machine" "mixesSent" "I", .fieldLink RX4 182 "MeshField$Machine" "spoilt" "I", .fieldLink RX4 185 "MeshField$Machine" "lost" "I", .fieldLink RX4 160 "MeshField$Machine" "lies" "I", .fieldLink RX4 87 "MeshField$Machine" "turnNumber" "I", .fieldLink RX4 90 "MeshField$Machine" "turnTick" "I", .methodLink RX4 71 yX4_isWhole, .instanceMethod yX4_isWhole, .selects RX4 yX4_isWhole yX4_isWhole, .initialized RX4, .code yX4_isWhole cX4_isWhole 1 (some .boolean)] ++ wsX40 ++ wsX00 ++ wsX20)
def wsX5_init : List Cond := .code yX5_init cX5_init 1 none :: ([.methodLink RX5 1 objectInit, .instanceMethod objectInit, .code objectInit ⟨#[0xb1]⟩ 1 none, .fieldLink RX5 7 "MeshField$Rules" "few" "I", .fieldLink RX5 13 "MeshField$Rules" "low" "I", .fieldLink RX5 16 "MeshField$Rules" "high" "I", .fieldLink RX5 19 "MeshField$Rules" "wait" "I"] ++ wsX50)
def wsX6_init_r1 : List Cond := [Cond.methodLink RX6 1 objectInit, Cond.instanceMethod objectInit, Cond.code objectInit ⟨#[0xb1]⟩ 1 none, Cond.classLink RX6 7 RX1, Cond.instantiable RX1 1, Cond.initialized RX1, Cond.fieldLink RX6 10 "MeshField" "draws" "LMeshField$Draws;", Cond.classLink RX6 16 RX5, Cond.instantiable RX5 4, Cond.initialized RX5, Cond.fieldLink RX6 19 "MeshField" "fieldRules" "LMeshField$Rules;", Cond.classLink RX6 23 RX4, Cond.fieldLink RX6 25 "MeshField" "machines" "[LMeshField$Machine;", Cond.arrayClass .int, Cond.fieldLink RX6 29 "MeshField" "lossOdds" "[I", Cond.fieldLink RX6 39 "MeshField" "toldPieces" "[I", Cond.fieldLink RX6 42 "MeshField" "allWholeAt" "I", Cond.instanceMethod yX1_init, Cond.code yX1_init cX1_init 1 none, Cond.methodLink RX1 1 objectInit, Cond.fieldLink RX1 7 "MeshField$Draws" "state" "I", Cond.instanceMethod yX5_init, Cond.code yX5_init cX5_init 1 none, Cond.methodLink RX5 1 objectInit]
def wsX6_init_r2 : List Cond := [Cond.fieldLink RX5 7 "MeshField$Rules" "few" "I", Cond.fieldLink RX5 13 "MeshField$Rules" "low" "I", Cond.fieldLink RX5 16 "MeshField$Rules" "high" "I", Cond.fieldLink RX5 19 "MeshField$Rules" "wait" "I", Cond.methodLink RX6 33 yJ7_fill_53178, Cond.static yJ7_fill_53178, Cond.initialized RJ7, Cond.code yJ7_fill_53178 cJ7_fill_53178 4 none]
def wsX6_init : List Cond := .code yX6_init cX6_init 1 none :: ((wsX6_init_r1 ++ wsX6_init_r2) ++ wsX10 ++ wsX60 ++ wsX50)
def wsX6_seed : List Cond := .code yX6_seed cX6_seed 2 none :: ([.fieldLink RX6 10 "MeshField" "draws" "LMeshField$Draws;"] ++ wsX60 ++ wsX10)
def wsX6_within : List Cond := .code yX6_within cX6_within 3 (some .boolean) :: ([])
def wsX6_rules : List Cond := .code yX6_rules cX6_rules 6 (some .boolean) :: ([.fieldLink RX6 53 "MeshField" "machineCount" "I", .fieldLink RX6 19 "MeshField" "fieldRules" "LMeshField$Rules;", .methodLink RX6 49 yX6_within, .static yX6_within, .initialized RX6, .code yX6_within cX6_within 3 (some .boolean)] ++ wsX60 ++ wsX50)
def wsX6_machine_r1 : List Cond := [Cond.fieldLink RX6 53 "MeshField" "machineCount" "I", Cond.fieldLink RX6 25 "MeshField" "machines" "[LMeshField$Machine;", Cond.classLink RX6 23 RX4, Cond.instantiable RX4 18, Cond.initialized RX4, Cond.fieldLink RX6 19 "MeshField" "fieldRules" "LMeshField$Rules;", Cond.fieldLink RX6 10 "MeshField" "draws" "LMeshField$Draws;", Cond.fieldLink RX6 75 "MeshField" "now" "I", Cond.methodLink RX6 68 yX4_init, Cond.instanceMethod yX4_init, Cond.code yX4_init cX4_init 3 none, Cond.methodLink RX4 3 objectInit, Cond.instanceMethod objectInit, Cond.code objectInit ⟨#[0xb1]⟩ 1 none, Cond.classLink RX4 9 RX0, Cond.instantiable RX0 3, Cond.initialized RX0, Cond.fieldLink RX4 12 "MeshField$Machine" "basis" "LMeshField$Basis;", Cond.classLink RX4 18 RX2, Cond.instantiable RX2 4, Cond.initialized RX2, Cond.fieldLink RX4 21 "MeshField$Machine" "interval" "LMeshField$Interval;", Cond.classLink RX4 25 RX3, Cond.instantiable RX3 9]
def wsX6_machine_r2 : List Cond := [Cond.initialized RX3, Cond.fieldLink RX4 28 "MeshField$Machine" "letter" "LMeshField$Letter;", Cond.fieldLink RX4 32 "MeshField$Machine" "dataAt" "I", Cond.fieldLink RX4 36 "MeshField$Machine" "rules" "LMeshField$Rules;", Cond.fieldLink RX4 40 "MeshField$Machine" "draws" "LMeshField$Draws;", Cond.instanceMethod yX0_init, Cond.code yX0_init cX0_init 1 none, Cond.methodLink RX0 3 objectInit, Cond.arrayClass .int, Cond.fieldLink RX0 9 "MeshField$Basis" "masks" "[I", Cond.fieldLink RX0 15 "MeshField$Basis" "mixed" "[I", Cond.instanceMethod yX2_init, Cond.code yX2_init cX2_init 1 none, Cond.methodLink RX2 1 objectInit, Cond.instanceMethod yX3_init, Cond.code yX3_init cX3_init 1 none, Cond.methodLink RX3 1 objectInit, Cond.methodLink RX6 78 yX2_begin, Cond.instanceMethod yX2_begin, Cond.selects RX2 yX2_begin yX2_begin, Cond.code yX2_begin cX2_begin 4 none, Cond.fieldLink RX2 7 "MeshField$Interval" "span" "I", Cond.fieldLink RX2 13 "MeshField$Interval" "began" "I", Cond.fieldLink RX2 16 "MeshField$Interval" "heard" "I"]
def wsX6_machine_r3 : List Cond := [Cond.fieldLink RX2 25 "MeshField$Interval" "tellsAt" "I", Cond.methodLink RX2 19 yX1_below, Cond.instanceMethod yX1_below, Cond.selects RX1 yX1_below yX1_below, Cond.initialized RX1, Cond.code yX1_below cX1_below 2 (some .int), Cond.fieldLink RX1 7 "MeshField$Draws" "state" "I", Cond.constant RX1 13 (1103515245)]
def wsX6_machine : List Cond := .code yX6_machine cX6_machine 3 (some .int) :: ((wsX6_machine_r1 ++ (wsX6_machine_r2 ++ wsX6_machine_r3)) ++ wsX60 ++ wsX40 ++ wsX50 ++ wsX00 ++ wsX20 ++ wsX30 ++ wsX10)
def wsX6_machineAt : List Cond := .code yX6_machineAt cX6_machineAt 2 (some (.object "MeshField$Machine")) :: ([.fieldLink RX6 53 "MeshField" "machineCount" "I", .fieldLink RX6 25 "MeshField" "machines" "[LMeshField$Machine;"] ++ wsX60)
def wsX6_pairOf : List Cond := .code yX6_pairOf cX6_pairOf 4 (some .int) :: ([.fieldLink RX6 29 "MeshField" "lossOdds" "[I", .methodLink RX6 49 yX6_within, .static yX6_within, .initialized RX6, .code yX6_within cX6_within 3 (some .boolean)] ++ wsX60)
def wsX6_hears : List Cond := .code yX6_hears cX6_hears 5 (some .boolean) :: ([.fieldLink RX6 29 "MeshField" "lossOdds" "[I", .methodLink RX6 84 yX6_machineAt, .instanceMethod yX6_machineAt, .selects RX6 yX6_machineAt yX6_machineAt, .initialized RX6, .code yX6_machineAt cX6_machineAt 2 (some (.object "MeshField$Machine")), .fieldLink RX6 53 "MeshField" "machineCount" "I", .fieldLink RX6 25 "MeshField" "machines" "[LMeshField$Machine;", .methodLink RX6 49 yX6_within, .static yX6_within, .code yX6_within cX6_within 3 (some .boolean), .methodLink RX6 88 yX6_pairOf, .instanceMethod yX6_pairOf, .selects RX6 yX6_pairOf yX6_pairOf, .code yX6_pairOf cX6_pairOf 4 (some .int)] ++ wsX60)
def wsX6_piece : List Cond := .code yX6_piece cX6_piece 2 (some .int) :: ([.fieldLink RX6 92 "MeshField" "toldCount" "I", .fieldLink RX6 39 "MeshField" "toldPieces" "[I"] ++ wsX60)
def wsX6_load_r1 : List Cond := [Cond.fieldLink RX6 92 "MeshField" "toldCount" "I", Cond.fieldLink RX6 39 "MeshField" "toldPieces" "[I", Cond.fieldLink RX6 75 "MeshField" "now" "I", Cond.fieldLink RX6 106 "MeshField" "greatestNumber" "I", Cond.fieldLink RX6 42 "MeshField" "allWholeAt" "I", Cond.methodLink RX6 84 yX6_machineAt, Cond.instanceMethod yX6_machineAt, Cond.selects RX6 yX6_machineAt yX6_machineAt, Cond.initialized RX6, Cond.code yX6_machineAt cX6_machineAt 2 (some (.object "MeshField$Machine")), Cond.fieldLink RX6 53 "MeshField" "machineCount" "I", Cond.fieldLink RX6 25 "MeshField" "machines" "[LMeshField$Machine;", Cond.methodLink RX6 49 yX6_within, Cond.static yX6_within, Cond.code yX6_within cX6_within 3 (some .boolean), Cond.methodLink RX6 98 yX4_keepWhole, Cond.instanceMethod yX4_keepWhole, Cond.selects RX4 yX4_keepWhole yX4_keepWhole, Cond.initialized RX4, Cond.code yX4_keepWhole cX4_keepWhole 5 none, Cond.fieldLink RX4 12 "MeshField$Machine" "basis" "LMeshField$Basis;", Cond.fieldLink RX4 56 "MeshField$Machine" "keptSum" "I", Cond.methodLink RX4 44 yX4_keep, Cond.instanceMethod yX4_keep]
def wsX6_load_r2 : List Cond := [Cond.selects RX4 yX4_keep yX4_keep, Cond.code yX4_keep cX4_keep 4 none, Cond.fieldLink RX4 59 "MeshField$Machine" "number" "I", Cond.fieldLink RX4 62 "MeshField$Machine" "pieces" "I", Cond.methodLink RX4 65 yX0_empty, Cond.instanceMethod yX0_empty, Cond.selects RX0 yX0_empty yX0_empty, Cond.initialized RX0, Cond.code yX0_empty cX0_empty 1 none, Cond.fieldLink RX0 9 "MeshField$Basis" "masks" "[I", Cond.fieldLink RX0 15 "MeshField$Basis" "mixed" "[I", Cond.fieldLink RX0 24 "MeshField$Basis" "rank" "I", Cond.methodLink RX0 18 yJ7_fill_53178, Cond.static yJ7_fill_53178, Cond.initialized RJ7, Cond.code yJ7_fill_53178 cJ7_fill_53178 4 none, Cond.methodLink RX4 48 yX0_takeIn, Cond.instanceMethod yX0_takeIn, Cond.selects RX0 yX0_takeIn yX0_takeIn, Cond.code yX0_takeIn cX0_takeIn 7 (some .boolean), Cond.methodLink RX0 28 yX0_has, Cond.static yX0_has, Cond.code yX0_has cX0_has 2 (some .boolean), Cond.methodLink RX0 32 yX0_headOf]
def wsX6_load_r3 : List Cond := [Cond.static yX0_headOf, Cond.code yX0_headOf cX0_headOf 2 (some .int), Cond.methodLink RX4 52 yX0_sumOfPieces, Cond.instanceMethod yX0_sumOfPieces, Cond.selects RX0 yX0_sumOfPieces yX0_sumOfPieces, Cond.code yX0_sumOfPieces cX0_sumOfPieces 3 (some .int), Cond.methodLink RX6 102 yX4_stir, Cond.instanceMethod yX4_stir, Cond.selects RX4 yX4_stir yX4_stir, Cond.code yX4_stir cX4_stir 2 none, Cond.fieldLink RX4 21 "MeshField$Machine" "interval" "LMeshField$Interval;", Cond.fieldLink RX4 36 "MeshField$Machine" "rules" "LMeshField$Rules;", Cond.fieldLink RX4 40 "MeshField$Machine" "draws" "LMeshField$Draws;", Cond.methodLink RX4 83 yX2_begin, Cond.instanceMethod yX2_begin, Cond.selects RX2 yX2_begin yX2_begin, Cond.initialized RX2, Cond.code yX2_begin cX2_begin 4 none, Cond.fieldLink RX2 7 "MeshField$Interval" "span" "I", Cond.fieldLink RX2 13 "MeshField$Interval" "began" "I", Cond.fieldLink RX2 16 "MeshField$Interval" "heard" "I", Cond.fieldLink RX2 25 "MeshField$Interval" "tellsAt" "I", Cond.methodLink RX2 19 yX1_below, Cond.instanceMethod yX1_below]
def wsX6_load_r4 : List Cond := [Cond.selects RX1 yX1_below yX1_below, Cond.initialized RX1, Cond.code yX1_below cX1_below 2 (some .int), Cond.fieldLink RX1 7 "MeshField$Draws" "state" "I", Cond.constant RX1 13 (1103515245)]
def wsX6_load : List Cond := .code yX6_load cX6_load 4 (some .int) :: ((wsX6_load_r1 ++ (wsX6_load_r2 ++ (wsX6_load_r3 ++ wsX6_load_r4))) ++ wsX60 ++ wsX40 ++ wsX00 ++ wsX20 ++ wsX50 ++ wsX10)
def wsX6_turn : List Cond := .code yX6_turn cX6_turn 5 (some .boolean) :: ([.constant RX6 118 (1000000), .methodLink RX6 84 yX6_machineAt, .instanceMethod yX6_machineAt, .selects RX6 yX6_machineAt yX6_machineAt, .initialized RX6, .code yX6_machineAt cX6_machineAt 2 (some (.object "MeshField$Machine")), .fieldLink RX6 53 "MeshField" "machineCount" "I", .fieldLink RX6 25 "MeshField" "machines" "[LMeshField$Machine;", .methodLink RX6 49 yX6_within, .static yX6_within, .code yX6_within cX6_within 3 (some .boolean), .methodLink RX6 119 yX4_takeTurn, .instanceMethod yX4_takeTurn, .selects RX4 yX4_takeTurn yX4_takeTurn, .initialized RX4, .code yX4_takeTurn cX4_takeTurn 3 (some .boolean), .fieldLink RX4 87 "MeshField$Machine" "turnNumber" "I", .fieldLink RX4 90 "MeshField$Machine" "turnTick" "I"] ++ wsX60 ++ wsX40)
def wsX6_lie_r1 : List Cond := [Cond.fieldLink RX6 75 "MeshField" "now" "I", Cond.methodLink RX6 84 yX6_machineAt, Cond.instanceMethod yX6_machineAt, Cond.selects RX6 yX6_machineAt yX6_machineAt, Cond.initialized RX6, Cond.code yX6_machineAt cX6_machineAt 2 (some (.object "MeshField$Machine")), Cond.fieldLink RX6 53 "MeshField" "machineCount" "I", Cond.fieldLink RX6 25 "MeshField" "machines" "[LMeshField$Machine;", Cond.methodLink RX6 49 yX6_within, Cond.static yX6_within, Cond.code yX6_within cX6_within 3 (some .boolean), Cond.methodLink RX6 126 yX4_takeOwnMix, Cond.instanceMethod yX4_takeOwnMix, Cond.selects RX4 yX4_takeOwnMix yX4_takeOwnMix, Cond.initialized RX4, Cond.code yX4_takeOwnMix cX4_takeOwnMix 3 (some .boolean), Cond.fieldLink RX4 32 "MeshField$Machine" "dataAt" "I", Cond.fieldLink RX4 12 "MeshField$Machine" "basis" "LMeshField$Basis;", Cond.fieldLink RX4 62 "MeshField$Machine" "pieces" "I", Cond.fieldLink RX4 56 "MeshField$Machine" "keptSum" "I", Cond.fieldLink RX4 160 "MeshField$Machine" "lies" "I", Cond.methodLink RX4 48 yX0_takeIn, Cond.instanceMethod yX0_takeIn, Cond.selects RX0 yX0_takeIn yX0_takeIn]
def wsX6_lie_r2 : List Cond := [Cond.initialized RX0, Cond.code yX0_takeIn cX0_takeIn 7 (some .boolean), Cond.fieldLink RX0 9 "MeshField$Basis" "masks" "[I", Cond.fieldLink RX0 15 "MeshField$Basis" "mixed" "[I", Cond.fieldLink RX0 24 "MeshField$Basis" "rank" "I", Cond.methodLink RX0 28 yX0_has, Cond.static yX0_has, Cond.code yX0_has cX0_has 2 (some .boolean), Cond.methodLink RX0 32 yX0_headOf, Cond.static yX0_headOf, Cond.code yX0_headOf cX0_headOf 2 (some .int), Cond.methodLink RX4 52 yX0_sumOfPieces, Cond.instanceMethod yX0_sumOfPieces, Cond.selects RX0 yX0_sumOfPieces yX0_sumOfPieces, Cond.code yX0_sumOfPieces cX0_sumOfPieces 3 (some .int), Cond.methodLink RX4 65 yX0_empty, Cond.instanceMethod yX0_empty, Cond.selects RX0 yX0_empty yX0_empty, Cond.code yX0_empty cX0_empty 1 none, Cond.methodLink RX0 18 yJ7_fill_53178, Cond.static yJ7_fill_53178, Cond.initialized RJ7, Cond.code yJ7_fill_53178 cJ7_fill_53178 4 none, Cond.methodLink RX6 102 yX4_stir]
def wsX6_lie_r3 : List Cond := [Cond.instanceMethod yX4_stir, Cond.selects RX4 yX4_stir yX4_stir, Cond.code yX4_stir cX4_stir 2 none, Cond.fieldLink RX4 21 "MeshField$Machine" "interval" "LMeshField$Interval;", Cond.fieldLink RX4 36 "MeshField$Machine" "rules" "LMeshField$Rules;", Cond.fieldLink RX4 40 "MeshField$Machine" "draws" "LMeshField$Draws;", Cond.methodLink RX4 83 yX2_begin, Cond.instanceMethod yX2_begin, Cond.selects RX2 yX2_begin yX2_begin, Cond.initialized RX2, Cond.code yX2_begin cX2_begin 4 none, Cond.fieldLink RX2 7 "MeshField$Interval" "span" "I", Cond.fieldLink RX2 13 "MeshField$Interval" "began" "I", Cond.fieldLink RX2 16 "MeshField$Interval" "heard" "I", Cond.fieldLink RX2 25 "MeshField$Interval" "tellsAt" "I", Cond.methodLink RX2 19 yX1_below, Cond.instanceMethod yX1_below, Cond.selects RX1 yX1_below yX1_below, Cond.initialized RX1, Cond.code yX1_below cX1_below 2 (some .int), Cond.fieldLink RX1 7 "MeshField$Draws" "state" "I", Cond.constant RX1 13 (1103515245)]
def wsX6_lie : List Cond := .code yX6_lie cX6_lie 5 (some .boolean) :: ((wsX6_lie_r1 ++ (wsX6_lie_r2 ++ wsX6_lie_r3)) ++ wsX40 ++ wsX60 ++ wsX00 ++ wsX20 ++ wsX50 ++ wsX10)
def wsX6_cut_r1 : List Cond := [Cond.fieldLink RX6 75 "MeshField" "now" "I", Cond.methodLink RX6 84 yX6_machineAt, Cond.instanceMethod yX6_machineAt, Cond.selects RX6 yX6_machineAt yX6_machineAt, Cond.initialized RX6, Cond.code yX6_machineAt cX6_machineAt 2 (some (.object "MeshField$Machine")), Cond.fieldLink RX6 53 "MeshField" "machineCount" "I", Cond.fieldLink RX6 25 "MeshField" "machines" "[LMeshField$Machine;", Cond.methodLink RX6 129 yX4_losePower, Cond.instanceMethod yX4_losePower, Cond.selects RX4 yX4_losePower yX4_losePower, Cond.initialized RX4, Cond.code yX4_losePower cX4_losePower 3 none, Cond.fieldLink RX4 12 "MeshField$Machine" "basis" "LMeshField$Basis;", Cond.fieldLink RX4 21 "MeshField$Machine" "interval" "LMeshField$Interval;", Cond.fieldLink RX4 36 "MeshField$Machine" "rules" "LMeshField$Rules;", Cond.fieldLink RX4 40 "MeshField$Machine" "draws" "LMeshField$Draws;", Cond.fieldLink RX4 32 "MeshField$Machine" "dataAt" "I", Cond.fieldLink RX4 87 "MeshField$Machine" "turnNumber" "I", Cond.fieldLink RX4 90 "MeshField$Machine" "turnTick" "I", Cond.methodLink RX4 93 yX0_tearLeast, Cond.instanceMethod yX0_tearLeast, Cond.selects RX0 yX0_tearLeast yX0_tearLeast, Cond.initialized RX0]
def wsX6_cut_r2 : List Cond := [Cond.code yX0_tearLeast cX0_tearLeast 2 none, Cond.fieldLink RX0 9 "MeshField$Basis" "masks" "[I", Cond.fieldLink RX0 15 "MeshField$Basis" "mixed" "[I", Cond.fieldLink RX0 24 "MeshField$Basis" "rank" "I", Cond.methodLink RX4 83 yX2_begin, Cond.instanceMethod yX2_begin, Cond.selects RX2 yX2_begin yX2_begin, Cond.initialized RX2, Cond.code yX2_begin cX2_begin 4 none, Cond.fieldLink RX2 7 "MeshField$Interval" "span" "I", Cond.fieldLink RX2 13 "MeshField$Interval" "began" "I", Cond.fieldLink RX2 16 "MeshField$Interval" "heard" "I", Cond.fieldLink RX2 25 "MeshField$Interval" "tellsAt" "I", Cond.methodLink RX2 19 yX1_below, Cond.instanceMethod yX1_below, Cond.selects RX1 yX1_below yX1_below, Cond.initialized RX1, Cond.code yX1_below cX1_below 2 (some .int), Cond.fieldLink RX1 7 "MeshField$Draws" "state" "I", Cond.constant RX1 13 (1103515245)]
def wsX6_cut : List Cond := .code yX6_cut cX6_cut 4 (some .boolean) :: ((wsX6_cut_r1 ++ wsX6_cut_r2) ++ wsX60 ++ wsX40 ++ wsX50 ++ wsX00 ++ wsX20 ++ wsX10)
def wsX6_sendLetters_r1 : List Cond := [Cond.fieldLink RX6 53 "MeshField" "machineCount" "I", Cond.fieldLink RX6 75 "MeshField" "now" "I", Cond.methodLink RX6 84 yX6_machineAt, Cond.instanceMethod yX6_machineAt, Cond.selects RX6 yX6_machineAt yX6_machineAt, Cond.initialized RX6, Cond.code yX6_machineAt cX6_machineAt 2 (some (.object "MeshField$Machine")), Cond.fieldLink RX6 25 "MeshField" "machines" "[LMeshField$Machine;", Cond.methodLink RX6 169 yX4_send, Cond.instanceMethod yX4_send, Cond.selects RX4 yX4_send yX4_send, Cond.initialized RX4, Cond.code yX4_send cX4_send 3 none, Cond.fieldLink RX4 32 "MeshField$Machine" "dataAt" "I", Cond.fieldLink RX4 12 "MeshField$Machine" "basis" "LMeshField$Basis;", Cond.fieldLink RX4 28 "MeshField$Machine" "letter" "LMeshField$Letter;", Cond.fieldLink RX4 40 "MeshField$Machine" "draws" "LMeshField$Draws;", Cond.fieldLink RX4 110 "MeshField$Machine" "mixesSent" "I", Cond.fieldLink RX4 21 "MeshField$Machine" "interval" "LMeshField$Interval;", Cond.fieldLink RX4 36 "MeshField$Machine" "rules" "LMeshField$Rules;", Cond.fieldLink RX4 122 "MeshField$Machine" "tellsSent" "I", Cond.methodLink RX4 96 yX1_below, Cond.instanceMethod yX1_below, Cond.selects RX1 yX1_below yX1_below]
def wsX6_sendLetters_r2 : List Cond := [Cond.initialized RX1, Cond.code yX1_below cX1_below 2 (some .int), Cond.fieldLink RX1 7 "MeshField$Draws" "state" "I", Cond.constant RX1 13 (1103515245), Cond.methodLink RX4 102 yX0_mixInto, Cond.instanceMethod yX0_mixInto, Cond.selects RX0 yX0_mixInto yX0_mixInto, Cond.initialized RX0, Cond.code yX0_mixInto cX0_mixInto 5 none, Cond.fieldLink RX0 9 "MeshField$Basis" "masks" "[I", Cond.fieldLink RX0 15 "MeshField$Basis" "mixed" "[I", Cond.methodLink RX0 28 yX0_has, Cond.static yX0_has, Cond.code yX0_has cX0_has 2 (some .boolean), Cond.methodLink RX0 43 yX0_maskOfNth, Cond.instanceMethod yX0_maskOfNth, Cond.selects RX0 yX0_maskOfNth yX0_maskOfNth, Cond.code yX0_maskOfNth cX0_maskOfNth 3 (some .int), Cond.methodLink RX0 49 yX0_headOfNth, Cond.instanceMethod yX0_headOfNth, Cond.selects RX0 yX0_headOfNth yX0_headOfNth, Cond.code yX0_headOfNth cX0_headOfNth 4 (some .int), Cond.methodLink RX0 46 yX0_dataOfNth, Cond.instanceMethod yX0_dataOfNth]
def wsX6_sendLetters_r3 : List Cond := [Cond.selects RX0 yX0_dataOfNth yX0_dataOfNth, Cond.code yX0_dataOfNth cX0_dataOfNth 3 (some .int), Cond.methodLink RX4 106 yX4_address, Cond.instanceMethod yX4_address, Cond.selects RX4 yX4_address yX4_address, Cond.code yX4_address cX4_address 2 none, Cond.fieldLink RX4 59 "MeshField$Machine" "number" "I", Cond.fieldLink RX4 62 "MeshField$Machine" "pieces" "I", Cond.fieldLink RX4 56 "MeshField$Machine" "keptSum" "I", Cond.fieldLink RX4 87 "MeshField$Machine" "turnNumber" "I", Cond.fieldLink RX4 90 "MeshField$Machine" "turnTick" "I"]
def wsX6_sendLetters : List Cond := .code yX6_sendLetters cX6_sendLetters 3 none :: ((wsX6_sendLetters_r1 ++ (wsX6_sendLetters_r2 ++ wsX6_sendLetters_r3)) ++ wsX60 ++ wsX40 ++ wsX00 ++ wsX20 ++ wsX50 ++ wsX30 ++ wsX10)
def wsX6_oddsBetween : List Cond := .code yX6_oddsBetween cX6_oddsBetween 4 (some .int) :: ([.fieldLink RX6 29 "MeshField" "lossOdds" "[I", .methodLink RX6 88 yX6_pairOf, .instanceMethod yX6_pairOf, .selects RX6 yX6_pairOf yX6_pairOf, .initialized RX6, .code yX6_pairOf cX6_pairOf 4 (some .int), .methodLink RX6 49 yX6_within, .static yX6_within, .code yX6_within cX6_within 3 (some .boolean)] ++ wsX60)
def wsX6_listen_r1 : List Cond := [Cond.fieldLink RX6 53 "MeshField" "machineCount" "I", Cond.fieldLink RX6 10 "MeshField" "draws" "LMeshField$Draws;", Cond.methodLink RX6 84 yX6_machineAt, Cond.instanceMethod yX6_machineAt, Cond.selects RX6 yX6_machineAt yX6_machineAt, Cond.initialized RX6, Cond.code yX6_machineAt cX6_machineAt 2 (some (.object "MeshField$Machine")), Cond.fieldLink RX6 25 "MeshField" "machines" "[LMeshField$Machine;", Cond.methodLink RX6 189 yX6_oddsBetween, Cond.instanceMethod yX6_oddsBetween, Cond.selects RX6 yX6_oddsBetween yX6_oddsBetween, Cond.code yX6_oddsBetween cX6_oddsBetween 4 (some .int), Cond.fieldLink RX6 29 "MeshField" "lossOdds" "[I", Cond.methodLink RX6 88 yX6_pairOf, Cond.instanceMethod yX6_pairOf, Cond.selects RX6 yX6_pairOf yX6_pairOf, Cond.code yX6_pairOf cX6_pairOf 4 (some .int), Cond.methodLink RX6 49 yX6_within, Cond.static yX6_within, Cond.code yX6_within cX6_within 3 (some .boolean), Cond.methodLink RX6 179 yX3_isSent, Cond.instanceMethod yX3_isSent, Cond.selects RX3 yX3_isSent yX3_isSent, Cond.initialized RX3]
def wsX6_listen_r2 : List Cond := [Cond.code yX3_isSent cX3_isSent 1 (some .boolean), Cond.fieldLink RX3 7 "MeshField$Letter" "kind" "I", Cond.methodLink RX6 195 yX1_below, Cond.instanceMethod yX1_below, Cond.selects RX1 yX1_below yX1_below, Cond.initialized RX1, Cond.code yX1_below cX1_below 2 (some .int), Cond.fieldLink RX1 7 "MeshField$Draws" "state" "I", Cond.constant RX1 13 (1103515245)]
def wsX6_listen : List Cond := .code yX6_listen cX6_listen 9 none :: ((wsX6_listen_r1 ++ wsX6_listen_r2) ++ wsX60 ++ wsX40 ++ wsX30 ++ wsX10)
def wsX6_hearLetters_r1 : List Cond := [Cond.fieldLink RX6 53 "MeshField" "machineCount" "I", Cond.methodLink RX6 84 yX6_machineAt, Cond.instanceMethod yX6_machineAt, Cond.selects RX6 yX6_machineAt yX6_machineAt, Cond.initialized RX6, Cond.code yX6_machineAt cX6_machineAt 2 (some (.object "MeshField$Machine")), Cond.fieldLink RX6 25 "MeshField" "machines" "[LMeshField$Machine;", Cond.methodLink RX6 179 yX3_isSent, Cond.instanceMethod yX3_isSent, Cond.selects RX3 yX3_isSent yX3_isSent, Cond.initialized RX3, Cond.code yX3_isSent cX3_isSent 1 (some .boolean), Cond.fieldLink RX3 7 "MeshField$Letter" "kind" "I", Cond.methodLink RX6 185 yX6_listen, Cond.instanceMethod yX6_listen, Cond.selects RX6 yX6_listen yX6_listen, Cond.code yX6_listen cX6_listen 9 none, Cond.fieldLink RX6 10 "MeshField" "draws" "LMeshField$Draws;", Cond.methodLink RX6 189 yX6_oddsBetween, Cond.instanceMethod yX6_oddsBetween, Cond.selects RX6 yX6_oddsBetween yX6_oddsBetween, Cond.code yX6_oddsBetween cX6_oddsBetween 4 (some .int), Cond.fieldLink RX6 29 "MeshField" "lossOdds" "[I", Cond.methodLink RX6 88 yX6_pairOf]
def wsX6_hearLetters_r2 : List Cond := [Cond.instanceMethod yX6_pairOf, Cond.selects RX6 yX6_pairOf yX6_pairOf, Cond.code yX6_pairOf cX6_pairOf 4 (some .int), Cond.methodLink RX6 49 yX6_within, Cond.static yX6_within, Cond.code yX6_within cX6_within 3 (some .boolean), Cond.methodLink RX6 195 yX1_below, Cond.instanceMethod yX1_below, Cond.selects RX1 yX1_below yX1_below, Cond.initialized RX1, Cond.code yX1_below cX1_below 2 (some .int), Cond.fieldLink RX1 7 "MeshField$Draws" "state" "I", Cond.constant RX1 13 (1103515245)]
def wsX6_hearLetters : List Cond := .code yX6_hearLetters cX6_hearLetters 3 none :: ((wsX6_hearLetters_r1 ++ wsX6_hearLetters_r2) ++ wsX60 ++ wsX40 ++ wsX30 ++ wsX10)
def wsX6_letLettersWork_r1 : List Cond := [Cond.fieldLink RX6 53 "MeshField" "machineCount" "I", Cond.fieldLink RX6 75 "MeshField" "now" "I", Cond.methodLink RX6 84 yX6_machineAt, Cond.instanceMethod yX6_machineAt, Cond.selects RX6 yX6_machineAt yX6_machineAt, Cond.initialized RX6, Cond.code yX6_machineAt cX6_machineAt 2 (some (.object "MeshField$Machine")), Cond.fieldLink RX6 25 "MeshField" "machines" "[LMeshField$Machine;", Cond.methodLink RX6 201 yX4_take, Cond.instanceMethod yX4_take, Cond.selects RX4 yX4_take yX4_take, Cond.initialized RX4, Cond.code yX4_take cX4_take 3 none, Cond.methodLink RX4 136 yX4_takeTurn, Cond.instanceMethod yX4_takeTurn, Cond.selects RX4 yX4_takeTurn yX4_takeTurn, Cond.code yX4_takeTurn cX4_takeTurn 3 (some .boolean), Cond.fieldLink RX4 87 "MeshField$Machine" "turnNumber" "I", Cond.fieldLink RX4 90 "MeshField$Machine" "turnTick" "I", Cond.methodLink RX4 139 yX4_takeTell, Cond.instanceMethod yX4_takeTell, Cond.selects RX4 yX4_takeTell yX4_takeTell, Cond.code yX4_takeTell cX4_takeTell 4 none, Cond.fieldLink RX4 59 "MeshField$Machine" "number" "I"]
def wsX6_letLettersWork_r2 : List Cond := [Cond.fieldLink RX4 12 "MeshField$Machine" "basis" "LMeshField$Basis;", Cond.fieldLink RX4 21 "MeshField$Machine" "interval" "LMeshField$Interval;", Cond.fieldLink RX4 32 "MeshField$Machine" "dataAt" "I", Cond.fieldLink RX4 40 "MeshField$Machine" "draws" "LMeshField$Draws;", Cond.fieldLink RX4 36 "MeshField$Machine" "rules" "LMeshField$Rules;", Cond.methodLink RX4 145 yX4_stir, Cond.instanceMethod yX4_stir, Cond.selects RX4 yX4_stir yX4_stir, Cond.code yX4_stir cX4_stir 2 none, Cond.methodLink RX4 83 yX2_begin, Cond.instanceMethod yX2_begin, Cond.selects RX2 yX2_begin yX2_begin, Cond.initialized RX2, Cond.code yX2_begin cX2_begin 4 none, Cond.fieldLink RX2 7 "MeshField$Interval" "span" "I", Cond.fieldLink RX2 13 "MeshField$Interval" "began" "I", Cond.fieldLink RX2 16 "MeshField$Interval" "heard" "I", Cond.fieldLink RX2 25 "MeshField$Interval" "tellsAt" "I", Cond.methodLink RX2 19 yX1_below, Cond.instanceMethod yX1_below, Cond.selects RX1 yX1_below yX1_below, Cond.initialized RX1, Cond.code yX1_below cX1_below 2 (some .int), Cond.fieldLink RX1 7 "MeshField$Draws" "state" "I"]
def wsX6_letLettersWork_r3 : List Cond := [Cond.constant RX1 13 (1103515245), Cond.methodLink RX4 96 yX1_below, Cond.methodLink RX4 142 yX4_takeMix, Cond.instanceMethod yX4_takeMix, Cond.selects RX4 yX4_takeMix yX4_takeMix, Cond.code yX4_takeMix cX4_takeMix 4 none, Cond.fieldLink RX4 62 "MeshField$Machine" "pieces" "I", Cond.fieldLink RX4 56 "MeshField$Machine" "keptSum" "I", Cond.methodLink RX4 44 yX4_keep, Cond.instanceMethod yX4_keep, Cond.selects RX4 yX4_keep yX4_keep, Cond.code yX4_keep cX4_keep 4 none, Cond.methodLink RX4 65 yX0_empty, Cond.instanceMethod yX0_empty, Cond.selects RX0 yX0_empty yX0_empty, Cond.initialized RX0, Cond.code yX0_empty cX0_empty 1 none, Cond.fieldLink RX0 9 "MeshField$Basis" "masks" "[I", Cond.fieldLink RX0 15 "MeshField$Basis" "mixed" "[I", Cond.fieldLink RX0 24 "MeshField$Basis" "rank" "I", Cond.methodLink RX0 18 yJ7_fill_53178, Cond.static yJ7_fill_53178, Cond.initialized RJ7, Cond.code yJ7_fill_53178 cJ7_fill_53178 4 none]
def wsX6_letLettersWork_r4 : List Cond := [Cond.methodLink RX4 157 yX4_takeOwnMix, Cond.instanceMethod yX4_takeOwnMix, Cond.selects RX4 yX4_takeOwnMix yX4_takeOwnMix, Cond.code yX4_takeOwnMix cX4_takeOwnMix 3 (some .boolean), Cond.fieldLink RX4 160 "MeshField$Machine" "lies" "I", Cond.methodLink RX4 48 yX0_takeIn, Cond.instanceMethod yX0_takeIn, Cond.selects RX0 yX0_takeIn yX0_takeIn, Cond.code yX0_takeIn cX0_takeIn 7 (some .boolean), Cond.methodLink RX0 28 yX0_has, Cond.static yX0_has, Cond.code yX0_has cX0_has 2 (some .boolean), Cond.methodLink RX0 32 yX0_headOf, Cond.static yX0_headOf, Cond.code yX0_headOf cX0_headOf 2 (some .int), Cond.methodLink RX4 52 yX0_sumOfPieces, Cond.instanceMethod yX0_sumOfPieces, Cond.selects RX0 yX0_sumOfPieces yX0_sumOfPieces, Cond.code yX0_sumOfPieces cX0_sumOfPieces 3 (some .int)]
def wsX6_letLettersWork : List Cond := .code yX6_letLettersWork cX6_letLettersWork 3 none :: ((wsX6_letLettersWork_r1 ++ (wsX6_letLettersWork_r2 ++ (wsX6_letLettersWork_r3 ++ wsX6_letLettersWork_r4))) ++ wsX60 ++ wsX40 ++ wsX30 ++ wsX00 ++ wsX20 ++ wsX50 ++ wsX10)
def wsX6_endTick_r1 : List Cond := [Cond.fieldLink RX6 53 "MeshField" "machineCount" "I", Cond.fieldLink RX6 75 "MeshField" "now" "I", Cond.methodLink RX6 84 yX6_machineAt, Cond.instanceMethod yX6_machineAt, Cond.selects RX6 yX6_machineAt yX6_machineAt, Cond.initialized RX6, Cond.code yX6_machineAt cX6_machineAt 2 (some (.object "MeshField$Machine")), Cond.fieldLink RX6 25 "MeshField" "machines" "[LMeshField$Machine;", Cond.methodLink RX6 205 yX4_end, Cond.instanceMethod yX4_end, Cond.selects RX4 yX4_end yX4_end, Cond.initialized RX4, Cond.code yX4_end cX4_end 3 none, Cond.fieldLink RX4 21 "MeshField$Machine" "interval" "LMeshField$Interval;", Cond.fieldLink RX4 36 "MeshField$Machine" "rules" "LMeshField$Rules;", Cond.methodLink RX4 169 Lib.Math.min.name, Cond.static Lib.Math.min.name, Cond.initialized "java/lang/Math", Cond.code Lib.Math.min.name Lib.Math.min.code 2 (some .int), Cond.fieldLink RX4 40 "MeshField$Machine" "draws" "LMeshField$Draws;", Cond.fieldLink RX4 87 "MeshField$Machine" "turnNumber" "I", Cond.fieldLink RX4 90 "MeshField$Machine" "turnTick" "I", Cond.fieldLink RX4 179 "MeshField$Machine" "runs" "I", Cond.methodLink RX4 83 yX2_begin]
def wsX6_endTick_r2 : List Cond := [Cond.instanceMethod yX2_begin, Cond.selects RX2 yX2_begin yX2_begin, Cond.initialized RX2, Cond.code yX2_begin cX2_begin 4 none, Cond.fieldLink RX2 7 "MeshField$Interval" "span" "I", Cond.fieldLink RX2 13 "MeshField$Interval" "began" "I", Cond.fieldLink RX2 16 "MeshField$Interval" "heard" "I", Cond.fieldLink RX2 25 "MeshField$Interval" "tellsAt" "I", Cond.methodLink RX2 19 yX1_below, Cond.instanceMethod yX1_below, Cond.selects RX1 yX1_below yX1_below, Cond.initialized RX1, Cond.code yX1_below cX1_below 2 (some .int), Cond.fieldLink RX1 7 "MeshField$Draws" "state" "I", Cond.constant RX1 13 (1103515245), Cond.methodLink RX4 175 yX4_isWholeOf, Cond.instanceMethod yX4_isWholeOf, Cond.selects RX4 yX4_isWholeOf yX4_isWholeOf, Cond.code yX4_isWholeOf cX4_isWholeOf 2 (some .boolean), Cond.fieldLink RX4 59 "MeshField$Machine" "number" "I", Cond.methodLink RX4 71 yX4_isWhole, Cond.instanceMethod yX4_isWhole, Cond.selects RX4 yX4_isWhole yX4_isWhole, Cond.code yX4_isWhole cX4_isWhole 1 (some .boolean)]
def wsX6_endTick_r3 : List Cond := [Cond.fieldLink RX4 12 "MeshField$Machine" "basis" "LMeshField$Basis;", Cond.fieldLink RX4 62 "MeshField$Machine" "pieces" "I"]
def wsX6_endTick : List Cond := .code yX6_endTick cX6_endTick 3 none :: ((wsX6_endTick_r1 ++ (wsX6_endTick_r2 ++ wsX6_endTick_r3)) ++ wsX60 ++ wsX40 ++ wsX20 ++ wsX50 ++ wsX10 ++ wsX00)
def wsX6_noteAllWhole : List Cond := .code yX6_noteAllWhole cX6_noteAllWhole 3 none :: ([.fieldLink RX6 42 "MeshField" "allWholeAt" "I", .fieldLink RX6 106 "MeshField" "greatestNumber" "I", .fieldLink RX6 53 "MeshField" "machineCount" "I", .fieldLink RX6 75 "MeshField" "now" "I", .methodLink RX6 84 yX6_machineAt, .instanceMethod yX6_machineAt, .selects RX6 yX6_machineAt yX6_machineAt, .initialized RX6, .code yX6_machineAt cX6_machineAt 2 (some (.object "MeshField$Machine")), .fieldLink RX6 25 "MeshField" "machines" "[LMeshField$Machine;", .methodLink RX6 208 yX4_isWholeOf, .instanceMethod yX4_isWholeOf, .selects RX4 yX4_isWholeOf yX4_isWholeOf, .initialized RX4, .code yX4_isWholeOf cX4_isWholeOf 2 (some .boolean), .fieldLink RX4 59 "MeshField$Machine" "number" "I", .methodLink RX4 71 yX4_isWhole, .instanceMethod yX4_isWhole, .selects RX4 yX4_isWhole yX4_isWhole, .code yX4_isWhole cX4_isWhole 1 (some .boolean), .fieldLink RX4 12 "MeshField$Machine" "basis" "LMeshField$Basis;", .fieldLink RX4 62 "MeshField$Machine" "pieces" "I"] ++ wsX60 ++ wsX40 ++ wsX00)
def wsX6_ticks_r1 : List Cond := [Cond.constant RX6 133 (100000), Cond.fieldLink RX6 75 "MeshField" "now" "I", Cond.methodLink RX6 49 yX6_within, Cond.static yX6_within, Cond.initialized RX6, Cond.code yX6_within cX6_within 3 (some .boolean), Cond.methodLink RX6 134 yX6_sendLetters, Cond.instanceMethod yX6_sendLetters, Cond.selects RX6 yX6_sendLetters yX6_sendLetters, Cond.code yX6_sendLetters cX6_sendLetters 3 none, Cond.fieldLink RX6 53 "MeshField" "machineCount" "I", Cond.methodLink RX6 84 yX6_machineAt, Cond.instanceMethod yX6_machineAt, Cond.selects RX6 yX6_machineAt yX6_machineAt, Cond.code yX6_machineAt cX6_machineAt 2 (some (.object "MeshField$Machine")), Cond.fieldLink RX6 25 "MeshField" "machines" "[LMeshField$Machine;", Cond.methodLink RX6 169 yX4_send, Cond.instanceMethod yX4_send, Cond.selects RX4 yX4_send yX4_send, Cond.initialized RX4, Cond.code yX4_send cX4_send 3 none, Cond.fieldLink RX4 32 "MeshField$Machine" "dataAt" "I", Cond.fieldLink RX4 12 "MeshField$Machine" "basis" "LMeshField$Basis;", Cond.fieldLink RX4 28 "MeshField$Machine" "letter" "LMeshField$Letter;"]
def wsX6_ticks_r2 : List Cond := [Cond.fieldLink RX4 40 "MeshField$Machine" "draws" "LMeshField$Draws;", Cond.fieldLink RX4 110 "MeshField$Machine" "mixesSent" "I", Cond.fieldLink RX4 21 "MeshField$Machine" "interval" "LMeshField$Interval;", Cond.fieldLink RX4 36 "MeshField$Machine" "rules" "LMeshField$Rules;", Cond.fieldLink RX4 122 "MeshField$Machine" "tellsSent" "I", Cond.methodLink RX4 96 yX1_below, Cond.instanceMethod yX1_below, Cond.selects RX1 yX1_below yX1_below, Cond.initialized RX1, Cond.code yX1_below cX1_below 2 (some .int), Cond.fieldLink RX1 7 "MeshField$Draws" "state" "I", Cond.constant RX1 13 (1103515245), Cond.methodLink RX4 102 yX0_mixInto, Cond.instanceMethod yX0_mixInto, Cond.selects RX0 yX0_mixInto yX0_mixInto, Cond.initialized RX0, Cond.code yX0_mixInto cX0_mixInto 5 none, Cond.fieldLink RX0 9 "MeshField$Basis" "masks" "[I", Cond.fieldLink RX0 15 "MeshField$Basis" "mixed" "[I", Cond.methodLink RX0 28 yX0_has, Cond.static yX0_has, Cond.code yX0_has cX0_has 2 (some .boolean), Cond.methodLink RX0 43 yX0_maskOfNth, Cond.instanceMethod yX0_maskOfNth]
def wsX6_ticks_r3 : List Cond := [Cond.selects RX0 yX0_maskOfNth yX0_maskOfNth, Cond.code yX0_maskOfNth cX0_maskOfNth 3 (some .int), Cond.methodLink RX0 49 yX0_headOfNth, Cond.instanceMethod yX0_headOfNth, Cond.selects RX0 yX0_headOfNth yX0_headOfNth, Cond.code yX0_headOfNth cX0_headOfNth 4 (some .int), Cond.methodLink RX0 46 yX0_dataOfNth, Cond.instanceMethod yX0_dataOfNth, Cond.selects RX0 yX0_dataOfNth yX0_dataOfNth, Cond.code yX0_dataOfNth cX0_dataOfNth 3 (some .int), Cond.methodLink RX4 106 yX4_address, Cond.instanceMethod yX4_address, Cond.selects RX4 yX4_address yX4_address, Cond.code yX4_address cX4_address 2 none, Cond.fieldLink RX4 59 "MeshField$Machine" "number" "I", Cond.fieldLink RX4 62 "MeshField$Machine" "pieces" "I", Cond.fieldLink RX4 56 "MeshField$Machine" "keptSum" "I", Cond.fieldLink RX4 87 "MeshField$Machine" "turnNumber" "I", Cond.fieldLink RX4 90 "MeshField$Machine" "turnTick" "I", Cond.methodLink RX6 137 yX6_hearLetters, Cond.instanceMethod yX6_hearLetters, Cond.selects RX6 yX6_hearLetters yX6_hearLetters, Cond.code yX6_hearLetters cX6_hearLetters 3 none, Cond.methodLink RX6 179 yX3_isSent]
def wsX6_ticks_r4 : List Cond := [Cond.instanceMethod yX3_isSent, Cond.selects RX3 yX3_isSent yX3_isSent, Cond.initialized RX3, Cond.code yX3_isSent cX3_isSent 1 (some .boolean), Cond.fieldLink RX3 7 "MeshField$Letter" "kind" "I", Cond.methodLink RX6 185 yX6_listen, Cond.instanceMethod yX6_listen, Cond.selects RX6 yX6_listen yX6_listen, Cond.code yX6_listen cX6_listen 9 none, Cond.fieldLink RX6 10 "MeshField" "draws" "LMeshField$Draws;", Cond.methodLink RX6 189 yX6_oddsBetween, Cond.instanceMethod yX6_oddsBetween, Cond.selects RX6 yX6_oddsBetween yX6_oddsBetween, Cond.code yX6_oddsBetween cX6_oddsBetween 4 (some .int), Cond.fieldLink RX6 29 "MeshField" "lossOdds" "[I", Cond.methodLink RX6 88 yX6_pairOf, Cond.instanceMethod yX6_pairOf, Cond.selects RX6 yX6_pairOf yX6_pairOf, Cond.code yX6_pairOf cX6_pairOf 4 (some .int), Cond.methodLink RX6 195 yX1_below, Cond.methodLink RX6 140 yX6_letLettersWork, Cond.instanceMethod yX6_letLettersWork, Cond.selects RX6 yX6_letLettersWork yX6_letLettersWork, Cond.code yX6_letLettersWork cX6_letLettersWork 3 none]
def wsX6_ticks_r5 : List Cond := [Cond.methodLink RX6 201 yX4_take, Cond.instanceMethod yX4_take, Cond.selects RX4 yX4_take yX4_take, Cond.code yX4_take cX4_take 3 none, Cond.methodLink RX4 136 yX4_takeTurn, Cond.instanceMethod yX4_takeTurn, Cond.selects RX4 yX4_takeTurn yX4_takeTurn, Cond.code yX4_takeTurn cX4_takeTurn 3 (some .boolean), Cond.methodLink RX4 139 yX4_takeTell, Cond.instanceMethod yX4_takeTell, Cond.selects RX4 yX4_takeTell yX4_takeTell, Cond.code yX4_takeTell cX4_takeTell 4 none, Cond.methodLink RX4 145 yX4_stir, Cond.instanceMethod yX4_stir, Cond.selects RX4 yX4_stir yX4_stir, Cond.code yX4_stir cX4_stir 2 none, Cond.methodLink RX4 83 yX2_begin, Cond.instanceMethod yX2_begin, Cond.selects RX2 yX2_begin yX2_begin, Cond.initialized RX2, Cond.code yX2_begin cX2_begin 4 none, Cond.fieldLink RX2 7 "MeshField$Interval" "span" "I", Cond.fieldLink RX2 13 "MeshField$Interval" "began" "I", Cond.fieldLink RX2 16 "MeshField$Interval" "heard" "I"]
def wsX6_ticks_r6 : List Cond := [Cond.fieldLink RX2 25 "MeshField$Interval" "tellsAt" "I", Cond.methodLink RX2 19 yX1_below, Cond.methodLink RX4 142 yX4_takeMix, Cond.instanceMethod yX4_takeMix, Cond.selects RX4 yX4_takeMix yX4_takeMix, Cond.code yX4_takeMix cX4_takeMix 4 none, Cond.methodLink RX4 44 yX4_keep, Cond.instanceMethod yX4_keep, Cond.selects RX4 yX4_keep yX4_keep, Cond.code yX4_keep cX4_keep 4 none, Cond.methodLink RX4 65 yX0_empty, Cond.instanceMethod yX0_empty, Cond.selects RX0 yX0_empty yX0_empty, Cond.code yX0_empty cX0_empty 1 none, Cond.fieldLink RX0 24 "MeshField$Basis" "rank" "I", Cond.methodLink RX0 18 yJ7_fill_53178, Cond.static yJ7_fill_53178, Cond.initialized RJ7, Cond.code yJ7_fill_53178 cJ7_fill_53178 4 none, Cond.methodLink RX4 157 yX4_takeOwnMix, Cond.instanceMethod yX4_takeOwnMix, Cond.selects RX4 yX4_takeOwnMix yX4_takeOwnMix, Cond.code yX4_takeOwnMix cX4_takeOwnMix 3 (some .boolean), Cond.fieldLink RX4 160 "MeshField$Machine" "lies" "I"]
def wsX6_ticks_r7 : List Cond := [Cond.methodLink RX4 48 yX0_takeIn, Cond.instanceMethod yX0_takeIn, Cond.selects RX0 yX0_takeIn yX0_takeIn, Cond.code yX0_takeIn cX0_takeIn 7 (some .boolean), Cond.methodLink RX0 32 yX0_headOf, Cond.static yX0_headOf, Cond.code yX0_headOf cX0_headOf 2 (some .int), Cond.methodLink RX4 52 yX0_sumOfPieces, Cond.instanceMethod yX0_sumOfPieces, Cond.selects RX0 yX0_sumOfPieces yX0_sumOfPieces, Cond.code yX0_sumOfPieces cX0_sumOfPieces 3 (some .int), Cond.methodLink RX6 143 yX6_endTick, Cond.instanceMethod yX6_endTick, Cond.selects RX6 yX6_endTick yX6_endTick, Cond.code yX6_endTick cX6_endTick 3 none, Cond.methodLink RX6 205 yX4_end, Cond.instanceMethod yX4_end, Cond.selects RX4 yX4_end yX4_end, Cond.code yX4_end cX4_end 3 none, Cond.methodLink RX4 169 Lib.Math.min.name, Cond.static Lib.Math.min.name, Cond.initialized "java/lang/Math", Cond.code Lib.Math.min.name Lib.Math.min.code 2 (some .int), Cond.fieldLink RX4 179 "MeshField$Machine" "runs" "I"]
def wsX6_ticks_r8 : List Cond := [Cond.methodLink RX4 175 yX4_isWholeOf, Cond.instanceMethod yX4_isWholeOf, Cond.selects RX4 yX4_isWholeOf yX4_isWholeOf, Cond.code yX4_isWholeOf cX4_isWholeOf 2 (some .boolean), Cond.methodLink RX4 71 yX4_isWhole, Cond.instanceMethod yX4_isWhole, Cond.selects RX4 yX4_isWhole yX4_isWhole, Cond.code yX4_isWhole cX4_isWhole 1 (some .boolean), Cond.methodLink RX6 146 yX6_noteAllWhole, Cond.instanceMethod yX6_noteAllWhole, Cond.selects RX6 yX6_noteAllWhole yX6_noteAllWhole, Cond.code yX6_noteAllWhole cX6_noteAllWhole 3 none, Cond.fieldLink RX6 42 "MeshField" "allWholeAt" "I", Cond.fieldLink RX6 106 "MeshField" "greatestNumber" "I", Cond.methodLink RX6 208 yX4_isWholeOf]
def wsX6_ticks : List Cond := .code yX6_ticks cX6_ticks 3 (some .int) :: ((wsX6_ticks_r1 ++ (wsX6_ticks_r2 ++ (wsX6_ticks_r3 ++ (wsX6_ticks_r4 ++ (wsX6_ticks_r5 ++ (wsX6_ticks_r6 ++ (wsX6_ticks_r7 ++ wsX6_ticks_r8))))))) ++ wsX60 ++ wsX40 ++ wsX00 ++ wsX20 ++ wsX50 ++ wsX30 ++ wsX10)
def wsX6_machineOf_r1 : List Cond := [Cond.methodLink RX6 84 yX6_machineAt, Cond.instanceMethod yX6_machineAt, Cond.selects RX6 yX6_machineAt yX6_machineAt, Cond.initialized RX6, Cond.code yX6_machineAt cX6_machineAt 2 (some (.object "MeshField$Machine")), Cond.fieldLink RX6 53 "MeshField" "machineCount" "I", Cond.fieldLink RX6 25 "MeshField" "machines" "[LMeshField$Machine;", Cond.methodLink RX6 149 yX0_maskOfNth, Cond.instanceMethod yX0_maskOfNth, Cond.selects RX0 yX0_maskOfNth yX0_maskOfNth, Cond.initialized RX0, Cond.code yX0_maskOfNth cX0_maskOfNth 3 (some .int), Cond.fieldLink RX0 9 "MeshField$Basis" "masks" "[I", Cond.methodLink RX0 49 yX0_headOfNth, Cond.instanceMethod yX0_headOfNth, Cond.selects RX0 yX0_headOfNth yX0_headOfNth, Cond.code yX0_headOfNth cX0_headOfNth 4 (some .int), Cond.methodLink RX6 153 yX4_answer, Cond.instanceMethod yX4_answer, Cond.selects RX4 yX4_answer yX4_answer, Cond.initialized RX4, Cond.code yX4_answer cX4_answer 2 (some .int), Cond.fieldLink RX4 59 "MeshField$Machine" "number" "I", Cond.fieldLink RX4 62 "MeshField$Machine" "pieces" "I"]
def wsX6_machineOf_r2 : List Cond := [Cond.fieldLink RX4 12 "MeshField$Machine" "basis" "LMeshField$Basis;", Cond.fieldLink RX4 179 "MeshField$Machine" "runs" "I", Cond.fieldLink RX4 21 "MeshField$Machine" "interval" "LMeshField$Interval;", Cond.fieldLink RX4 32 "MeshField$Machine" "dataAt" "I", Cond.fieldLink RX4 122 "MeshField$Machine" "tellsSent" "I", Cond.fieldLink RX4 110 "MeshField$Machine" "mixesSent" "I", Cond.fieldLink RX4 182 "MeshField$Machine" "spoilt" "I", Cond.fieldLink RX4 185 "MeshField$Machine" "lost" "I", Cond.fieldLink RX4 160 "MeshField$Machine" "lies" "I", Cond.fieldLink RX4 87 "MeshField$Machine" "turnNumber" "I", Cond.fieldLink RX4 90 "MeshField$Machine" "turnTick" "I", Cond.methodLink RX4 71 yX4_isWhole, Cond.instanceMethod yX4_isWhole, Cond.selects RX4 yX4_isWhole yX4_isWhole, Cond.code yX4_isWhole cX4_isWhole 1 (some .boolean)]
def wsX6_machineOf : List Cond := .code yX6_machineOf cX6_machineOf 4 (some .int) :: ((wsX6_machineOf_r1 ++ wsX6_machineOf_r2) ++ wsX40 ++ wsX60 ++ wsX00 ++ wsX20)
def wsX6_data : List Cond := .code yX6_data cX6_data 4 (some .int) :: ([.methodLink RX6 84 yX6_machineAt, .instanceMethod yX6_machineAt, .selects RX6 yX6_machineAt yX6_machineAt, .initialized RX6, .code yX6_machineAt cX6_machineAt 2 (some (.object "MeshField$Machine")), .fieldLink RX6 53 "MeshField" "machineCount" "I", .fieldLink RX6 25 "MeshField" "machines" "[LMeshField$Machine;", .methodLink RX6 156 yX0_dataOfNth, .instanceMethod yX0_dataOfNth, .selects RX0 yX0_dataOfNth yX0_dataOfNth, .initialized RX0, .code yX0_dataOfNth cX0_dataOfNth 3 (some .int), .fieldLink RX0 15 "MeshField$Basis" "mixed" "[I", .methodLink RX0 49 yX0_headOfNth, .instanceMethod yX0_headOfNth, .selects RX0 yX0_headOfNth yX0_headOfNth, .code yX0_headOfNth cX0_headOfNth 4 (some .int), .fieldLink RX0 9 "MeshField$Basis" "masks" "[I"] ++ wsX40 ++ wsX60 ++ wsX00)
def wsX6_sum : List Cond := .code yX6_sum cX6_sum 3 (some .int) :: ([.methodLink RX6 84 yX6_machineAt, .instanceMethod yX6_machineAt, .selects RX6 yX6_machineAt yX6_machineAt, .initialized RX6, .code yX6_machineAt cX6_machineAt 2 (some (.object "MeshField$Machine")), .fieldLink RX6 53 "MeshField" "machineCount" "I", .fieldLink RX6 25 "MeshField" "machines" "[LMeshField$Machine;"] ++ wsX40 ++ wsX60)
def wsX6_lettersSent : List Cond := .code yX6_lettersSent cX6_lettersSent 4 (some .int) :: ([.fieldLink RX6 53 "MeshField" "machineCount" "I", .methodLink RX6 84 yX6_machineAt, .instanceMethod yX6_machineAt, .selects RX6 yX6_machineAt yX6_machineAt, .initialized RX6, .code yX6_machineAt cX6_machineAt 2 (some (.object "MeshField$Machine")), .fieldLink RX6 25 "MeshField" "machines" "[LMeshField$Machine;"] ++ wsX60 ++ wsX40)
def wsX6_runnersOfGreatest : List Cond := .code yX6_runnersOfGreatest cX6_runnersOfGreatest 4 (some .int) :: ([.fieldLink RX6 53 "MeshField" "machineCount" "I", .fieldLink RX6 106 "MeshField" "greatestNumber" "I", .methodLink RX6 84 yX6_machineAt, .instanceMethod yX6_machineAt, .selects RX6 yX6_machineAt yX6_machineAt, .initialized RX6, .code yX6_machineAt cX6_machineAt 2 (some (.object "MeshField$Machine")), .fieldLink RX6 25 "MeshField" "machines" "[LMeshField$Machine;"] ++ wsX60 ++ wsX40)
def wsX6_about : List Cond := .code yX6_about cX6_about 2 (some .int) :: ([.fieldLink RX6 53 "MeshField" "machineCount" "I", .fieldLink RX6 75 "MeshField" "now" "I", .fieldLink RX6 92 "MeshField" "toldCount" "I", .fieldLink RX6 42 "MeshField" "allWholeAt" "I", .methodLink RX6 162 yX6_lettersSent, .instanceMethod yX6_lettersSent, .selects RX6 yX6_lettersSent yX6_lettersSent, .initialized RX6, .code yX6_lettersSent cX6_lettersSent 4 (some .int), .methodLink RX6 84 yX6_machineAt, .instanceMethod yX6_machineAt, .selects RX6 yX6_machineAt yX6_machineAt, .code yX6_machineAt cX6_machineAt 2 (some (.object "MeshField$Machine")), .fieldLink RX6 25 "MeshField" "machines" "[LMeshField$Machine;", .methodLink RX6 166 yX6_runnersOfGreatest, .instanceMethod yX6_runnersOfGreatest, .selects RX6 yX6_runnersOfGreatest yX6_runnersOfGreatest, .code yX6_runnersOfGreatest cX6_runnersOfGreatest 4 (some .int), .fieldLink RX6 106 "MeshField" "greatestNumber" "I"] ++ wsX60 ++ wsX40)
def wsX7_init_r1 : List Cond := [Cond.methodLink RX7 1 objectInit, Cond.instanceMethod objectInit, Cond.code objectInit ⟨#[0xb1]⟩ 1 none, Cond.fieldLink RX7 7 "MeshFieldModel" "s" "I", Cond.fieldLink RX7 13 "MeshFieldModel" "few" "I", Cond.fieldLink RX7 16 "MeshFieldModel" "low" "I", Cond.fieldLink RX7 19 "MeshFieldModel" "high" "I", Cond.fieldLink RX7 22 "MeshFieldModel" "wait" "I", Cond.arrayClass .int, Cond.fieldLink RX7 25 "MeshFieldModel" "told" "[I", Cond.fieldLink RX7 29 "MeshFieldModel" "odds" "[I", Cond.fieldLink RX7 32 "MeshFieldModel" "number" "[I", Cond.fieldLink RX7 35 "MeshFieldModel" "many" "[I", Cond.fieldLink RX7 38 "MeshFieldModel" "sum" "[I", Cond.fieldLink RX7 41 "MeshFieldModel" "mask" "[I", Cond.fieldLink RX7 44 "MeshFieldModel" "data" "[I", Cond.fieldLink RX7 47 "MeshFieldModel" "runs" "[I", Cond.fieldLink RX7 50 "MeshFieldModel" "span" "[I", Cond.fieldLink RX7 53 "MeshFieldModel" "began" "[I", Cond.fieldLink RX7 56 "MeshFieldModel" "tellsAt" "[I", Cond.fieldLink RX7 59 "MeshFieldModel" "heard" "[I", Cond.fieldLink RX7 62 "MeshFieldModel" "dataAt" "[I", Cond.fieldLink RX7 65 "MeshFieldModel" "tells" "[I", Cond.fieldLink RX7 68 "MeshFieldModel" "mixes" "[I"]
def wsX7_init_r2 : List Cond := [Cond.fieldLink RX7 71 "MeshFieldModel" "spoilt" "[I", Cond.fieldLink RX7 74 "MeshFieldModel" "lost" "[I", Cond.fieldLink RX7 77 "MeshFieldModel" "lies" "[I", Cond.fieldLink RX7 80 "MeshFieldModel" "turnNumber" "[I", Cond.fieldLink RX7 83 "MeshFieldModel" "turnTick" "[I", Cond.fieldLink RX7 86 "MeshFieldModel" "firstWhole" "I", Cond.fieldLink RX7 89 "MeshFieldModel" "sends" "[I", Cond.fieldLink RX7 92 "MeshFieldModel" "letterNumber" "[I", Cond.fieldLink RX7 95 "MeshFieldModel" "letterMany" "[I", Cond.fieldLink RX7 98 "MeshFieldModel" "letterSum" "[I", Cond.fieldLink RX7 101 "MeshFieldModel" "letterRank" "[I", Cond.fieldLink RX7 104 "MeshFieldModel" "letterMask" "[I", Cond.fieldLink RX7 107 "MeshFieldModel" "letterData" "[I", Cond.fieldLink RX7 110 "MeshFieldModel" "letterTurn" "[I", Cond.fieldLink RX7 113 "MeshFieldModel" "letterTick" "[I", Cond.fieldLink RX7 116 "MeshFieldModel" "from" "[I"]
def wsX7_init : List Cond := .code yX7_init cX7_init 2 none :: ((wsX7_init_r1 ++ wsX7_init_r2) ++ wsX70)
def wsX7_isIn : List Cond := .code yX7_isIn cX7_isIn 3 (some .boolean) :: ([])
def wsX7_isMachine : List Cond := .code yX7_isMachine cX7_isMachine 2 (some .boolean) :: ([.fieldLink RX7 119 "MeshFieldModel" "machines" "I", .methodLink RX7 122 yX7_isIn, .static yX7_isIn, .initialized RX7, .code yX7_isIn cX7_isIn 3 (some .boolean)] ++ wsX70)
def wsX7_draw : List Cond := .code yX7_draw cX7_draw 2 (some .int) :: ([.fieldLink RX7 7 "MeshFieldModel" "s" "I", .constant RX7 126 (1103515245)] ++ wsX70)
def wsX7_seed : List Cond := .code yX7_seed cX7_seed 2 none :: ([.fieldLink RX7 7 "MeshFieldModel" "s" "I"] ++ wsX70)
def wsX7_rules : List Cond := .code yX7_rules cX7_rules 5 (some .boolean) :: ([.fieldLink RX7 119 "MeshFieldModel" "machines" "I", .fieldLink RX7 13 "MeshFieldModel" "few" "I", .fieldLink RX7 16 "MeshFieldModel" "low" "I", .fieldLink RX7 19 "MeshFieldModel" "high" "I", .fieldLink RX7 22 "MeshFieldModel" "wait" "I", .methodLink RX7 122 yX7_isIn, .static yX7_isIn, .initialized RX7, .code yX7_isIn cX7_isIn 3 (some .boolean)] ++ wsX70)
def wsX7_begin : List Cond := .code yX7_begin cX7_begin 3 none :: ([.fieldLink RX7 53 "MeshFieldModel" "began" "[I", .fieldLink RX7 59 "MeshFieldModel" "heard" "[I", .fieldLink RX7 56 "MeshFieldModel" "tellsAt" "[I", .fieldLink RX7 50 "MeshFieldModel" "span" "[I", .methodLink RX7 127 yX7_draw, .instanceMethod yX7_draw, .selects RX7 yX7_draw yX7_draw, .initialized RX7, .code yX7_draw cX7_draw 2 (some .int), .fieldLink RX7 7 "MeshFieldModel" "s" "I", .constant RX7 126 (1103515245)] ++ wsX70)
def wsX7_machine : List Cond := .code yX7_machine cX7_machine 2 (some .int) :: ([.fieldLink RX7 119 "MeshFieldModel" "machines" "I", .fieldLink RX7 50 "MeshFieldModel" "span" "[I", .fieldLink RX7 16 "MeshFieldModel" "low" "I", .fieldLink RX7 62 "MeshFieldModel" "dataAt" "[I", .fieldLink RX7 131 "MeshFieldModel" "tick" "I", .methodLink RX7 134 yX7_begin, .instanceMethod yX7_begin, .selects RX7 yX7_begin yX7_begin, .initialized RX7, .code yX7_begin cX7_begin 3 none, .fieldLink RX7 53 "MeshFieldModel" "began" "[I", .fieldLink RX7 59 "MeshFieldModel" "heard" "[I", .fieldLink RX7 56 "MeshFieldModel" "tellsAt" "[I", .methodLink RX7 127 yX7_draw, .instanceMethod yX7_draw, .selects RX7 yX7_draw yX7_draw, .code yX7_draw cX7_draw 2 (some .int), .fieldLink RX7 7 "MeshFieldModel" "s" "I", .constant RX7 126 (1103515245)] ++ wsX70)
def wsX7_hears : List Cond := .code yX7_hears cX7_hears 4 (some .boolean) :: ([.fieldLink RX7 29 "MeshFieldModel" "odds" "[I", .methodLink RX7 138 yX7_isMachine, .instanceMethod yX7_isMachine, .selects RX7 yX7_isMachine yX7_isMachine, .initialized RX7, .code yX7_isMachine cX7_isMachine 2 (some .boolean), .fieldLink RX7 119 "MeshFieldModel" "machines" "I", .methodLink RX7 122 yX7_isIn, .static yX7_isIn, .code yX7_isIn cX7_isIn 3 (some .boolean)] ++ wsX70)
def wsX7_piece : List Cond := .code yX7_piece cX7_piece 2 (some .int) :: ([.fieldLink RX7 142 "MeshFieldModel" "pieces" "I", .fieldLink RX7 25 "MeshFieldModel" "told" "[I"] ++ wsX70)
def wsX7_rank : List Cond := .code yX7_rank cX7_rank 4 (some .int) :: ([.fieldLink RX7 41 "MeshFieldModel" "mask" "[I"] ++ wsX70)
def wsX7_isWhole : List Cond := .code yX7_isWhole cX7_isWhole 2 (some .boolean) :: ([.fieldLink RX7 32 "MeshFieldModel" "number" "[I", .fieldLink RX7 35 "MeshFieldModel" "many" "[I", .methodLink RX7 145 yX7_rank, .instanceMethod yX7_rank, .selects RX7 yX7_rank yX7_rank, .initialized RX7, .code yX7_rank cX7_rank 4 (some .int), .fieldLink RX7 41 "MeshFieldModel" "mask" "[I"] ++ wsX70)
def wsX7_empty : List Cond := .code yX7_empty cX7_empty 3 none :: ([.fieldLink RX7 41 "MeshFieldModel" "mask" "[I", .fieldLink RX7 44 "MeshFieldModel" "data" "[I"] ++ wsX70)
def wsX7_sumOf : List Cond := .code yX7_sumOf cX7_sumOf 4 (some .int) :: ([.fieldLink RX7 44 "MeshFieldModel" "data" "[I"] ++ wsX70)
def wsX7_comesIn : List Cond := .code yX7_comesIn cX7_comesIn 8 (some .boolean) :: ([.fieldLink RX7 41 "MeshFieldModel" "mask" "[I", .fieldLink RX7 44 "MeshFieldModel" "data" "[I", .fieldLink RX7 35 "MeshFieldModel" "many" "[I", .fieldLink RX7 38 "MeshFieldModel" "sum" "[I", .fieldLink RX7 77 "MeshFieldModel" "lies" "[I", .methodLink RX7 145 yX7_rank, .instanceMethod yX7_rank, .selects RX7 yX7_rank yX7_rank, .initialized RX7, .code yX7_rank cX7_rank 4 (some .int), .methodLink RX7 148 yX7_sumOf, .instanceMethod yX7_sumOf, .selects RX7 yX7_sumOf yX7_sumOf, .code yX7_sumOf cX7_sumOf 4 (some .int), .methodLink RX7 151 yX7_empty, .instanceMethod yX7_empty, .selects RX7 yX7_empty yX7_empty, .code yX7_empty cX7_empty 3 none] ++ wsX70)
def wsX7_stir : List Cond := .code yX7_stir cX7_stir 2 none :: ([.fieldLink RX7 50 "MeshFieldModel" "span" "[I", .fieldLink RX7 16 "MeshFieldModel" "low" "I", .fieldLink RX7 131 "MeshFieldModel" "tick" "I", .methodLink RX7 134 yX7_begin, .instanceMethod yX7_begin, .selects RX7 yX7_begin yX7_begin, .initialized RX7, .code yX7_begin cX7_begin 3 none, .fieldLink RX7 53 "MeshFieldModel" "began" "[I", .fieldLink RX7 59 "MeshFieldModel" "heard" "[I", .fieldLink RX7 56 "MeshFieldModel" "tellsAt" "[I", .methodLink RX7 127 yX7_draw, .instanceMethod yX7_draw, .selects RX7 yX7_draw yX7_draw, .code yX7_draw cX7_draw 2 (some .int), .fieldLink RX7 7 "MeshFieldModel" "s" "I", .constant RX7 126 (1103515245)] ++ wsX70)
def wsX7_load_r1 : List Cond := [Cond.fieldLink RX7 142 "MeshFieldModel" "pieces" "I", Cond.fieldLink RX7 32 "MeshFieldModel" "number" "[I", Cond.fieldLink RX7 35 "MeshFieldModel" "many" "[I", Cond.fieldLink RX7 41 "MeshFieldModel" "mask" "[I", Cond.fieldLink RX7 44 "MeshFieldModel" "data" "[I", Cond.fieldLink RX7 25 "MeshFieldModel" "told" "[I", Cond.fieldLink RX7 38 "MeshFieldModel" "sum" "[I", Cond.methodLink RX7 138 yX7_isMachine, Cond.instanceMethod yX7_isMachine, Cond.selects RX7 yX7_isMachine yX7_isMachine, Cond.initialized RX7, Cond.code yX7_isMachine cX7_isMachine 2 (some .boolean), Cond.fieldLink RX7 119 "MeshFieldModel" "machines" "I", Cond.methodLink RX7 122 yX7_isIn, Cond.static yX7_isIn, Cond.code yX7_isIn cX7_isIn 3 (some .boolean), Cond.methodLink RX7 151 yX7_empty, Cond.instanceMethod yX7_empty, Cond.selects RX7 yX7_empty yX7_empty, Cond.code yX7_empty cX7_empty 3 none, Cond.methodLink RX7 148 yX7_sumOf, Cond.instanceMethod yX7_sumOf, Cond.selects RX7 yX7_sumOf yX7_sumOf, Cond.code yX7_sumOf cX7_sumOf 4 (some .int)]
def wsX7_load_r2 : List Cond := [Cond.methodLink RX7 155 yX7_stir, Cond.instanceMethod yX7_stir, Cond.selects RX7 yX7_stir yX7_stir, Cond.code yX7_stir cX7_stir 2 none, Cond.fieldLink RX7 50 "MeshFieldModel" "span" "[I", Cond.fieldLink RX7 16 "MeshFieldModel" "low" "I", Cond.fieldLink RX7 131 "MeshFieldModel" "tick" "I", Cond.methodLink RX7 134 yX7_begin, Cond.instanceMethod yX7_begin, Cond.selects RX7 yX7_begin yX7_begin, Cond.code yX7_begin cX7_begin 3 none, Cond.fieldLink RX7 53 "MeshFieldModel" "began" "[I", Cond.fieldLink RX7 59 "MeshFieldModel" "heard" "[I", Cond.fieldLink RX7 56 "MeshFieldModel" "tellsAt" "[I", Cond.methodLink RX7 127 yX7_draw, Cond.instanceMethod yX7_draw, Cond.selects RX7 yX7_draw yX7_draw, Cond.code yX7_draw cX7_draw 2 (some .int), Cond.fieldLink RX7 7 "MeshFieldModel" "s" "I", Cond.constant RX7 126 (1103515245)]
def wsX7_load : List Cond := .code yX7_load cX7_load 4 (some .int) :: ((wsX7_load_r1 ++ wsX7_load_r2) ++ wsX70)
def wsX7_turn : List Cond := .code yX7_turn cX7_turn 4 (some .boolean) :: ([.fieldLink RX7 80 "MeshFieldModel" "turnNumber" "[I", .constant RX7 158 (1000000), .fieldLink RX7 83 "MeshFieldModel" "turnTick" "[I", .methodLink RX7 138 yX7_isMachine, .instanceMethod yX7_isMachine, .selects RX7 yX7_isMachine yX7_isMachine, .initialized RX7, .code yX7_isMachine cX7_isMachine 2 (some .boolean), .fieldLink RX7 119 "MeshFieldModel" "machines" "I", .methodLink RX7 122 yX7_isIn, .static yX7_isIn, .code yX7_isIn cX7_isIn 3 (some .boolean)] ++ wsX70)
def wsX7_own_r1 : List Cond := [Cond.fieldLink RX7 62 "MeshFieldModel" "dataAt" "[I", Cond.methodLink RX7 159 yX7_comesIn, Cond.instanceMethod yX7_comesIn, Cond.selects RX7 yX7_comesIn yX7_comesIn, Cond.initialized RX7, Cond.code yX7_comesIn cX7_comesIn 8 (some .boolean), Cond.fieldLink RX7 41 "MeshFieldModel" "mask" "[I", Cond.fieldLink RX7 44 "MeshFieldModel" "data" "[I", Cond.fieldLink RX7 35 "MeshFieldModel" "many" "[I", Cond.fieldLink RX7 38 "MeshFieldModel" "sum" "[I", Cond.fieldLink RX7 77 "MeshFieldModel" "lies" "[I", Cond.methodLink RX7 145 yX7_rank, Cond.instanceMethod yX7_rank, Cond.selects RX7 yX7_rank yX7_rank, Cond.code yX7_rank cX7_rank 4 (some .int), Cond.methodLink RX7 148 yX7_sumOf, Cond.instanceMethod yX7_sumOf, Cond.selects RX7 yX7_sumOf yX7_sumOf, Cond.code yX7_sumOf cX7_sumOf 4 (some .int), Cond.methodLink RX7 151 yX7_empty, Cond.instanceMethod yX7_empty, Cond.selects RX7 yX7_empty yX7_empty, Cond.code yX7_empty cX7_empty 3 none, Cond.methodLink RX7 155 yX7_stir]
def wsX7_own_r2 : List Cond := [Cond.instanceMethod yX7_stir, Cond.selects RX7 yX7_stir yX7_stir, Cond.code yX7_stir cX7_stir 2 none, Cond.fieldLink RX7 50 "MeshFieldModel" "span" "[I", Cond.fieldLink RX7 16 "MeshFieldModel" "low" "I", Cond.fieldLink RX7 131 "MeshFieldModel" "tick" "I", Cond.methodLink RX7 134 yX7_begin, Cond.instanceMethod yX7_begin, Cond.selects RX7 yX7_begin yX7_begin, Cond.code yX7_begin cX7_begin 3 none, Cond.fieldLink RX7 53 "MeshFieldModel" "began" "[I", Cond.fieldLink RX7 59 "MeshFieldModel" "heard" "[I", Cond.fieldLink RX7 56 "MeshFieldModel" "tellsAt" "[I", Cond.methodLink RX7 127 yX7_draw, Cond.instanceMethod yX7_draw, Cond.selects RX7 yX7_draw yX7_draw, Cond.code yX7_draw cX7_draw 2 (some .int), Cond.fieldLink RX7 7 "MeshFieldModel" "s" "I", Cond.constant RX7 126 (1103515245)]
def wsX7_own : List Cond := .code yX7_own cX7_own 4 none :: ((wsX7_own_r1 ++ wsX7_own_r2) ++ wsX70)
def wsX7_lie_r1 : List Cond := [Cond.fieldLink RX7 32 "MeshFieldModel" "number" "[I", Cond.fieldLink RX7 35 "MeshFieldModel" "many" "[I", Cond.methodLink RX7 138 yX7_isMachine, Cond.instanceMethod yX7_isMachine, Cond.selects RX7 yX7_isMachine yX7_isMachine, Cond.initialized RX7, Cond.code yX7_isMachine cX7_isMachine 2 (some .boolean), Cond.fieldLink RX7 119 "MeshFieldModel" "machines" "I", Cond.methodLink RX7 122 yX7_isIn, Cond.static yX7_isIn, Cond.code yX7_isIn cX7_isIn 3 (some .boolean), Cond.methodLink RX7 162 yX7_own, Cond.instanceMethod yX7_own, Cond.selects RX7 yX7_own yX7_own, Cond.code yX7_own cX7_own 4 none, Cond.fieldLink RX7 62 "MeshFieldModel" "dataAt" "[I", Cond.methodLink RX7 159 yX7_comesIn, Cond.instanceMethod yX7_comesIn, Cond.selects RX7 yX7_comesIn yX7_comesIn, Cond.code yX7_comesIn cX7_comesIn 8 (some .boolean), Cond.fieldLink RX7 41 "MeshFieldModel" "mask" "[I", Cond.fieldLink RX7 44 "MeshFieldModel" "data" "[I", Cond.fieldLink RX7 38 "MeshFieldModel" "sum" "[I", Cond.fieldLink RX7 77 "MeshFieldModel" "lies" "[I"]
def wsX7_lie_r2 : List Cond := [Cond.methodLink RX7 145 yX7_rank, Cond.instanceMethod yX7_rank, Cond.selects RX7 yX7_rank yX7_rank, Cond.code yX7_rank cX7_rank 4 (some .int), Cond.methodLink RX7 148 yX7_sumOf, Cond.instanceMethod yX7_sumOf, Cond.selects RX7 yX7_sumOf yX7_sumOf, Cond.code yX7_sumOf cX7_sumOf 4 (some .int), Cond.methodLink RX7 151 yX7_empty, Cond.instanceMethod yX7_empty, Cond.selects RX7 yX7_empty yX7_empty, Cond.code yX7_empty cX7_empty 3 none, Cond.methodLink RX7 155 yX7_stir, Cond.instanceMethod yX7_stir, Cond.selects RX7 yX7_stir yX7_stir, Cond.code yX7_stir cX7_stir 2 none, Cond.fieldLink RX7 50 "MeshFieldModel" "span" "[I", Cond.fieldLink RX7 16 "MeshFieldModel" "low" "I", Cond.fieldLink RX7 131 "MeshFieldModel" "tick" "I", Cond.methodLink RX7 134 yX7_begin, Cond.instanceMethod yX7_begin, Cond.selects RX7 yX7_begin yX7_begin, Cond.code yX7_begin cX7_begin 3 none, Cond.fieldLink RX7 53 "MeshFieldModel" "began" "[I"]
def wsX7_lie_r3 : List Cond := [Cond.fieldLink RX7 59 "MeshFieldModel" "heard" "[I", Cond.fieldLink RX7 56 "MeshFieldModel" "tellsAt" "[I", Cond.methodLink RX7 127 yX7_draw, Cond.instanceMethod yX7_draw, Cond.selects RX7 yX7_draw yX7_draw, Cond.code yX7_draw cX7_draw 2 (some .int), Cond.fieldLink RX7 7 "MeshFieldModel" "s" "I", Cond.constant RX7 126 (1103515245)]
def wsX7_lie : List Cond := .code yX7_lie cX7_lie 4 (some .boolean) :: ((wsX7_lie_r1 ++ (wsX7_lie_r2 ++ wsX7_lie_r3)) ++ wsX70)
def wsX7_cut_r1 : List Cond := [Cond.fieldLink RX7 41 "MeshFieldModel" "mask" "[I", Cond.fieldLink RX7 44 "MeshFieldModel" "data" "[I", Cond.fieldLink RX7 50 "MeshFieldModel" "span" "[I", Cond.fieldLink RX7 16 "MeshFieldModel" "low" "I", Cond.fieldLink RX7 131 "MeshFieldModel" "tick" "I", Cond.fieldLink RX7 62 "MeshFieldModel" "dataAt" "[I", Cond.fieldLink RX7 80 "MeshFieldModel" "turnNumber" "[I", Cond.fieldLink RX7 83 "MeshFieldModel" "turnTick" "[I", Cond.methodLink RX7 138 yX7_isMachine, Cond.instanceMethod yX7_isMachine, Cond.selects RX7 yX7_isMachine yX7_isMachine, Cond.initialized RX7, Cond.code yX7_isMachine cX7_isMachine 2 (some .boolean), Cond.fieldLink RX7 119 "MeshFieldModel" "machines" "I", Cond.methodLink RX7 122 yX7_isIn, Cond.static yX7_isIn, Cond.code yX7_isIn cX7_isIn 3 (some .boolean), Cond.methodLink RX7 134 yX7_begin, Cond.instanceMethod yX7_begin, Cond.selects RX7 yX7_begin yX7_begin, Cond.code yX7_begin cX7_begin 3 none, Cond.fieldLink RX7 53 "MeshFieldModel" "began" "[I", Cond.fieldLink RX7 59 "MeshFieldModel" "heard" "[I", Cond.fieldLink RX7 56 "MeshFieldModel" "tellsAt" "[I"]
def wsX7_cut_r2 : List Cond := [Cond.methodLink RX7 127 yX7_draw, Cond.instanceMethod yX7_draw, Cond.selects RX7 yX7_draw yX7_draw, Cond.code yX7_draw cX7_draw 2 (some .int), Cond.fieldLink RX7 7 "MeshFieldModel" "s" "I", Cond.constant RX7 126 (1103515245)]
def wsX7_cut : List Cond := .code yX7_cut cX7_cut 4 (some .boolean) :: ((wsX7_cut_r1 ++ wsX7_cut_r2) ++ wsX70)
def wsX7_makeMix : List Cond := .code yX7_makeMix cX7_makeMix 6 none :: ([.fieldLink RX7 104 "MeshFieldModel" "letterMask" "[I", .fieldLink RX7 107 "MeshFieldModel" "letterData" "[I", .fieldLink RX7 41 "MeshFieldModel" "mask" "[I", .fieldLink RX7 44 "MeshFieldModel" "data" "[I", .methodLink RX7 127 yX7_draw, .instanceMethod yX7_draw, .selects RX7 yX7_draw yX7_draw, .initialized RX7, .code yX7_draw cX7_draw 2 (some .int), .fieldLink RX7 7 "MeshFieldModel" "s" "I", .constant RX7 126 (1103515245)] ++ wsX70)
def wsX7_send_r1 : List Cond := [Cond.fieldLink RX7 89 "MeshFieldModel" "sends" "[I", Cond.fieldLink RX7 92 "MeshFieldModel" "letterNumber" "[I", Cond.fieldLink RX7 32 "MeshFieldModel" "number" "[I", Cond.fieldLink RX7 95 "MeshFieldModel" "letterMany" "[I", Cond.fieldLink RX7 35 "MeshFieldModel" "many" "[I", Cond.fieldLink RX7 98 "MeshFieldModel" "letterSum" "[I", Cond.fieldLink RX7 38 "MeshFieldModel" "sum" "[I", Cond.fieldLink RX7 101 "MeshFieldModel" "letterRank" "[I", Cond.fieldLink RX7 110 "MeshFieldModel" "letterTurn" "[I", Cond.fieldLink RX7 80 "MeshFieldModel" "turnNumber" "[I", Cond.fieldLink RX7 113 "MeshFieldModel" "letterTick" "[I", Cond.fieldLink RX7 83 "MeshFieldModel" "turnTick" "[I", Cond.fieldLink RX7 62 "MeshFieldModel" "dataAt" "[I", Cond.fieldLink RX7 131 "MeshFieldModel" "tick" "I", Cond.fieldLink RX7 68 "MeshFieldModel" "mixes" "[I", Cond.fieldLink RX7 166 "MeshFieldModel" "sent" "I", Cond.fieldLink RX7 56 "MeshFieldModel" "tellsAt" "[I", Cond.fieldLink RX7 59 "MeshFieldModel" "heard" "[I", Cond.fieldLink RX7 13 "MeshFieldModel" "few" "I", Cond.fieldLink RX7 65 "MeshFieldModel" "tells" "[I", Cond.methodLink RX7 145 yX7_rank, Cond.instanceMethod yX7_rank, Cond.selects RX7 yX7_rank yX7_rank, Cond.initialized RX7]
def wsX7_send_r2 : List Cond := [Cond.code yX7_rank cX7_rank 4 (some .int), Cond.fieldLink RX7 41 "MeshFieldModel" "mask" "[I", Cond.methodLink RX7 169 yX7_makeMix, Cond.instanceMethod yX7_makeMix, Cond.selects RX7 yX7_makeMix yX7_makeMix, Cond.code yX7_makeMix cX7_makeMix 6 none, Cond.fieldLink RX7 104 "MeshFieldModel" "letterMask" "[I", Cond.fieldLink RX7 107 "MeshFieldModel" "letterData" "[I", Cond.fieldLink RX7 44 "MeshFieldModel" "data" "[I", Cond.methodLink RX7 127 yX7_draw, Cond.instanceMethod yX7_draw, Cond.selects RX7 yX7_draw yX7_draw, Cond.code yX7_draw cX7_draw 2 (some .int), Cond.fieldLink RX7 7 "MeshFieldModel" "s" "I", Cond.constant RX7 126 (1103515245)]
def wsX7_send : List Cond := .code yX7_send cX7_send 3 none :: ((wsX7_send_r1 ++ wsX7_send_r2) ++ wsX70)
def wsX7_listen : List Cond := .code yX7_listen cX7_listen 5 none :: ([.fieldLink RX7 119 "MeshFieldModel" "machines" "I", .fieldLink RX7 89 "MeshFieldModel" "sends" "[I", .fieldLink RX7 29 "MeshFieldModel" "odds" "[I", .fieldLink RX7 116 "MeshFieldModel" "from" "[I", .fieldLink RX7 71 "MeshFieldModel" "spoilt" "[I", .fieldLink RX7 74 "MeshFieldModel" "lost" "[I", .methodLink RX7 127 yX7_draw, .instanceMethod yX7_draw, .selects RX7 yX7_draw yX7_draw, .initialized RX7, .code yX7_draw cX7_draw 2 (some .int), .fieldLink RX7 7 "MeshFieldModel" "s" "I", .constant RX7 126 (1103515245)] ++ wsX70)
def wsX7_tell_r1 : List Cond := [Cond.fieldLink RX7 32 "MeshFieldModel" "number" "[I", Cond.fieldLink RX7 59 "MeshFieldModel" "heard" "[I", Cond.fieldLink RX7 62 "MeshFieldModel" "dataAt" "[I", Cond.fieldLink RX7 131 "MeshFieldModel" "tick" "I", Cond.fieldLink RX7 22 "MeshFieldModel" "wait" "I", Cond.methodLink RX7 145 yX7_rank, Cond.instanceMethod yX7_rank, Cond.selects RX7 yX7_rank yX7_rank, Cond.initialized RX7, Cond.code yX7_rank cX7_rank 4 (some .int), Cond.fieldLink RX7 41 "MeshFieldModel" "mask" "[I", Cond.methodLink RX7 155 yX7_stir, Cond.instanceMethod yX7_stir, Cond.selects RX7 yX7_stir yX7_stir, Cond.code yX7_stir cX7_stir 2 none, Cond.fieldLink RX7 50 "MeshFieldModel" "span" "[I", Cond.fieldLink RX7 16 "MeshFieldModel" "low" "I", Cond.methodLink RX7 134 yX7_begin, Cond.instanceMethod yX7_begin, Cond.selects RX7 yX7_begin yX7_begin, Cond.code yX7_begin cX7_begin 3 none, Cond.fieldLink RX7 53 "MeshFieldModel" "began" "[I", Cond.fieldLink RX7 56 "MeshFieldModel" "tellsAt" "[I", Cond.methodLink RX7 127 yX7_draw]
def wsX7_tell_r2 : List Cond := [Cond.instanceMethod yX7_draw, Cond.selects RX7 yX7_draw yX7_draw, Cond.code yX7_draw cX7_draw 2 (some .int), Cond.fieldLink RX7 7 "MeshFieldModel" "s" "I", Cond.constant RX7 126 (1103515245)]
def wsX7_tell : List Cond := .code yX7_tell cX7_tell 6 none :: ((wsX7_tell_r1 ++ wsX7_tell_r2) ++ wsX70)
def wsX7_mix_r1 : List Cond := [Cond.fieldLink RX7 92 "MeshFieldModel" "letterNumber" "[I", Cond.fieldLink RX7 32 "MeshFieldModel" "number" "[I", Cond.fieldLink RX7 35 "MeshFieldModel" "many" "[I", Cond.fieldLink RX7 95 "MeshFieldModel" "letterMany" "[I", Cond.fieldLink RX7 38 "MeshFieldModel" "sum" "[I", Cond.fieldLink RX7 98 "MeshFieldModel" "letterSum" "[I", Cond.fieldLink RX7 104 "MeshFieldModel" "letterMask" "[I", Cond.fieldLink RX7 107 "MeshFieldModel" "letterData" "[I", Cond.methodLink RX7 151 yX7_empty, Cond.instanceMethod yX7_empty, Cond.selects RX7 yX7_empty yX7_empty, Cond.initialized RX7, Cond.code yX7_empty cX7_empty 3 none, Cond.fieldLink RX7 41 "MeshFieldModel" "mask" "[I", Cond.fieldLink RX7 44 "MeshFieldModel" "data" "[I", Cond.methodLink RX7 162 yX7_own, Cond.instanceMethod yX7_own, Cond.selects RX7 yX7_own yX7_own, Cond.code yX7_own cX7_own 4 none, Cond.fieldLink RX7 62 "MeshFieldModel" "dataAt" "[I", Cond.methodLink RX7 159 yX7_comesIn, Cond.instanceMethod yX7_comesIn, Cond.selects RX7 yX7_comesIn yX7_comesIn, Cond.code yX7_comesIn cX7_comesIn 8 (some .boolean)]
def wsX7_mix_r2 : List Cond := [Cond.fieldLink RX7 77 "MeshFieldModel" "lies" "[I", Cond.methodLink RX7 145 yX7_rank, Cond.instanceMethod yX7_rank, Cond.selects RX7 yX7_rank yX7_rank, Cond.code yX7_rank cX7_rank 4 (some .int), Cond.methodLink RX7 148 yX7_sumOf, Cond.instanceMethod yX7_sumOf, Cond.selects RX7 yX7_sumOf yX7_sumOf, Cond.code yX7_sumOf cX7_sumOf 4 (some .int), Cond.methodLink RX7 155 yX7_stir, Cond.instanceMethod yX7_stir, Cond.selects RX7 yX7_stir yX7_stir, Cond.code yX7_stir cX7_stir 2 none, Cond.fieldLink RX7 50 "MeshFieldModel" "span" "[I", Cond.fieldLink RX7 16 "MeshFieldModel" "low" "I", Cond.fieldLink RX7 131 "MeshFieldModel" "tick" "I", Cond.methodLink RX7 134 yX7_begin, Cond.instanceMethod yX7_begin, Cond.selects RX7 yX7_begin yX7_begin, Cond.code yX7_begin cX7_begin 3 none, Cond.fieldLink RX7 53 "MeshFieldModel" "began" "[I", Cond.fieldLink RX7 59 "MeshFieldModel" "heard" "[I", Cond.fieldLink RX7 56 "MeshFieldModel" "tellsAt" "[I", Cond.methodLink RX7 127 yX7_draw]
def wsX7_mix_r3 : List Cond := [Cond.instanceMethod yX7_draw, Cond.selects RX7 yX7_draw yX7_draw, Cond.code yX7_draw cX7_draw 2 (some .int), Cond.fieldLink RX7 7 "MeshFieldModel" "s" "I", Cond.constant RX7 126 (1103515245)]
def wsX7_mix : List Cond := .code yX7_mix cX7_mix 3 none :: ((wsX7_mix_r1 ++ (wsX7_mix_r2 ++ wsX7_mix_r3)) ++ wsX70)
def wsX7_work_r1 : List Cond := [Cond.fieldLink RX7 116 "MeshFieldModel" "from" "[I", Cond.fieldLink RX7 89 "MeshFieldModel" "sends" "[I", Cond.fieldLink RX7 92 "MeshFieldModel" "letterNumber" "[I", Cond.fieldLink RX7 101 "MeshFieldModel" "letterRank" "[I", Cond.fieldLink RX7 110 "MeshFieldModel" "letterTurn" "[I", Cond.fieldLink RX7 80 "MeshFieldModel" "turnNumber" "[I", Cond.fieldLink RX7 83 "MeshFieldModel" "turnTick" "[I", Cond.fieldLink RX7 113 "MeshFieldModel" "letterTick" "[I", Cond.methodLink RX7 172 yX7_tell, Cond.instanceMethod yX7_tell, Cond.selects RX7 yX7_tell yX7_tell, Cond.initialized RX7, Cond.code yX7_tell cX7_tell 6 none, Cond.fieldLink RX7 32 "MeshFieldModel" "number" "[I", Cond.fieldLink RX7 59 "MeshFieldModel" "heard" "[I", Cond.fieldLink RX7 62 "MeshFieldModel" "dataAt" "[I", Cond.fieldLink RX7 131 "MeshFieldModel" "tick" "I", Cond.fieldLink RX7 22 "MeshFieldModel" "wait" "I", Cond.methodLink RX7 145 yX7_rank, Cond.instanceMethod yX7_rank, Cond.selects RX7 yX7_rank yX7_rank, Cond.code yX7_rank cX7_rank 4 (some .int), Cond.fieldLink RX7 41 "MeshFieldModel" "mask" "[I", Cond.methodLink RX7 155 yX7_stir]
def wsX7_work_r2 : List Cond := [Cond.instanceMethod yX7_stir, Cond.selects RX7 yX7_stir yX7_stir, Cond.code yX7_stir cX7_stir 2 none, Cond.fieldLink RX7 50 "MeshFieldModel" "span" "[I", Cond.fieldLink RX7 16 "MeshFieldModel" "low" "I", Cond.methodLink RX7 134 yX7_begin, Cond.instanceMethod yX7_begin, Cond.selects RX7 yX7_begin yX7_begin, Cond.code yX7_begin cX7_begin 3 none, Cond.fieldLink RX7 53 "MeshFieldModel" "began" "[I", Cond.fieldLink RX7 56 "MeshFieldModel" "tellsAt" "[I", Cond.methodLink RX7 127 yX7_draw, Cond.instanceMethod yX7_draw, Cond.selects RX7 yX7_draw yX7_draw, Cond.code yX7_draw cX7_draw 2 (some .int), Cond.fieldLink RX7 7 "MeshFieldModel" "s" "I", Cond.constant RX7 126 (1103515245), Cond.methodLink RX7 175 yX7_mix, Cond.instanceMethod yX7_mix, Cond.selects RX7 yX7_mix yX7_mix, Cond.code yX7_mix cX7_mix 3 none, Cond.fieldLink RX7 35 "MeshFieldModel" "many" "[I", Cond.fieldLink RX7 95 "MeshFieldModel" "letterMany" "[I", Cond.fieldLink RX7 38 "MeshFieldModel" "sum" "[I"]
def wsX7_work_r3 : List Cond := [Cond.fieldLink RX7 98 "MeshFieldModel" "letterSum" "[I", Cond.fieldLink RX7 104 "MeshFieldModel" "letterMask" "[I", Cond.fieldLink RX7 107 "MeshFieldModel" "letterData" "[I", Cond.methodLink RX7 151 yX7_empty, Cond.instanceMethod yX7_empty, Cond.selects RX7 yX7_empty yX7_empty, Cond.code yX7_empty cX7_empty 3 none, Cond.fieldLink RX7 44 "MeshFieldModel" "data" "[I", Cond.methodLink RX7 162 yX7_own, Cond.instanceMethod yX7_own, Cond.selects RX7 yX7_own yX7_own, Cond.code yX7_own cX7_own 4 none, Cond.methodLink RX7 159 yX7_comesIn, Cond.instanceMethod yX7_comesIn, Cond.selects RX7 yX7_comesIn yX7_comesIn, Cond.code yX7_comesIn cX7_comesIn 8 (some .boolean), Cond.fieldLink RX7 77 "MeshFieldModel" "lies" "[I", Cond.methodLink RX7 148 yX7_sumOf, Cond.instanceMethod yX7_sumOf, Cond.selects RX7 yX7_sumOf yX7_sumOf, Cond.code yX7_sumOf cX7_sumOf 4 (some .int)]
def wsX7_work : List Cond := .code yX7_work cX7_work 3 none :: ((wsX7_work_r1 ++ (wsX7_work_r2 ++ wsX7_work_r3)) ++ wsX70)
def wsX7_finish_r1 : List Cond := [Cond.fieldLink RX7 131 "MeshFieldModel" "tick" "I", Cond.fieldLink RX7 53 "MeshFieldModel" "began" "[I", Cond.fieldLink RX7 50 "MeshFieldModel" "span" "[I", Cond.fieldLink RX7 19 "MeshFieldModel" "high" "I", Cond.fieldLink RX7 80 "MeshFieldModel" "turnNumber" "[I", Cond.fieldLink RX7 83 "MeshFieldModel" "turnTick" "[I", Cond.fieldLink RX7 32 "MeshFieldModel" "number" "[I", Cond.fieldLink RX7 47 "MeshFieldModel" "runs" "[I", Cond.methodLink RX7 134 yX7_begin, Cond.instanceMethod yX7_begin, Cond.selects RX7 yX7_begin yX7_begin, Cond.initialized RX7, Cond.code yX7_begin cX7_begin 3 none, Cond.fieldLink RX7 59 "MeshFieldModel" "heard" "[I", Cond.fieldLink RX7 56 "MeshFieldModel" "tellsAt" "[I", Cond.methodLink RX7 127 yX7_draw, Cond.instanceMethod yX7_draw, Cond.selects RX7 yX7_draw yX7_draw, Cond.code yX7_draw cX7_draw 2 (some .int), Cond.fieldLink RX7 7 "MeshFieldModel" "s" "I", Cond.constant RX7 126 (1103515245), Cond.methodLink RX7 178 yX7_isWhole, Cond.instanceMethod yX7_isWhole, Cond.selects RX7 yX7_isWhole yX7_isWhole]
def wsX7_finish_r2 : List Cond := [Cond.code yX7_isWhole cX7_isWhole 2 (some .boolean), Cond.fieldLink RX7 35 "MeshFieldModel" "many" "[I", Cond.methodLink RX7 145 yX7_rank, Cond.instanceMethod yX7_rank, Cond.selects RX7 yX7_rank yX7_rank, Cond.code yX7_rank cX7_rank 4 (some .int), Cond.fieldLink RX7 41 "MeshFieldModel" "mask" "[I"]
def wsX7_finish : List Cond := .code yX7_finish cX7_finish 2 none :: ((wsX7_finish_r1 ++ wsX7_finish_r2) ++ wsX70)
def wsX7_greatestKept : List Cond := .code yX7_greatestKept cX7_greatestKept 3 (some .int) :: ([.fieldLink RX7 119 "MeshFieldModel" "machines" "I", .fieldLink RX7 32 "MeshFieldModel" "number" "[I"] ++ wsX70)
def wsX7_look : List Cond := .code yX7_look cX7_look 4 none :: ([.fieldLink RX7 185 "MeshFieldModel" "greatest" "I", .fieldLink RX7 86 "MeshFieldModel" "firstWhole" "I", .fieldLink RX7 119 "MeshFieldModel" "machines" "I", .fieldLink RX7 32 "MeshFieldModel" "number" "[I", .fieldLink RX7 131 "MeshFieldModel" "tick" "I", .methodLink RX7 181 yX7_greatestKept, .instanceMethod yX7_greatestKept, .selects RX7 yX7_greatestKept yX7_greatestKept, .initialized RX7, .code yX7_greatestKept cX7_greatestKept 3 (some .int), .methodLink RX7 178 yX7_isWhole, .instanceMethod yX7_isWhole, .selects RX7 yX7_isWhole yX7_isWhole, .code yX7_isWhole cX7_isWhole 2 (some .boolean), .fieldLink RX7 35 "MeshFieldModel" "many" "[I", .methodLink RX7 145 yX7_rank, .instanceMethod yX7_rank, .selects RX7 yX7_rank yX7_rank, .code yX7_rank cX7_rank 4 (some .int), .fieldLink RX7 41 "MeshFieldModel" "mask" "[I"] ++ wsX70)
def wsX7_ticks_r1 : List Cond := [Cond.fieldLink RX7 131 "MeshFieldModel" "tick" "I", Cond.constant RX7 188 (100000), Cond.fieldLink RX7 119 "MeshFieldModel" "machines" "I", Cond.methodLink RX7 122 yX7_isIn, Cond.static yX7_isIn, Cond.initialized RX7, Cond.code yX7_isIn cX7_isIn 3 (some .boolean), Cond.methodLink RX7 189 yX7_send, Cond.instanceMethod yX7_send, Cond.selects RX7 yX7_send yX7_send, Cond.code yX7_send cX7_send 3 none, Cond.fieldLink RX7 89 "MeshFieldModel" "sends" "[I", Cond.fieldLink RX7 92 "MeshFieldModel" "letterNumber" "[I", Cond.fieldLink RX7 32 "MeshFieldModel" "number" "[I", Cond.fieldLink RX7 95 "MeshFieldModel" "letterMany" "[I", Cond.fieldLink RX7 35 "MeshFieldModel" "many" "[I", Cond.fieldLink RX7 98 "MeshFieldModel" "letterSum" "[I", Cond.fieldLink RX7 38 "MeshFieldModel" "sum" "[I", Cond.fieldLink RX7 101 "MeshFieldModel" "letterRank" "[I", Cond.fieldLink RX7 110 "MeshFieldModel" "letterTurn" "[I", Cond.fieldLink RX7 80 "MeshFieldModel" "turnNumber" "[I", Cond.fieldLink RX7 113 "MeshFieldModel" "letterTick" "[I", Cond.fieldLink RX7 83 "MeshFieldModel" "turnTick" "[I", Cond.fieldLink RX7 62 "MeshFieldModel" "dataAt" "[I"]
def wsX7_ticks_r2 : List Cond := [Cond.fieldLink RX7 68 "MeshFieldModel" "mixes" "[I", Cond.fieldLink RX7 166 "MeshFieldModel" "sent" "I", Cond.fieldLink RX7 56 "MeshFieldModel" "tellsAt" "[I", Cond.fieldLink RX7 59 "MeshFieldModel" "heard" "[I", Cond.fieldLink RX7 13 "MeshFieldModel" "few" "I", Cond.fieldLink RX7 65 "MeshFieldModel" "tells" "[I", Cond.methodLink RX7 145 yX7_rank, Cond.instanceMethod yX7_rank, Cond.selects RX7 yX7_rank yX7_rank, Cond.code yX7_rank cX7_rank 4 (some .int), Cond.fieldLink RX7 41 "MeshFieldModel" "mask" "[I", Cond.methodLink RX7 169 yX7_makeMix, Cond.instanceMethod yX7_makeMix, Cond.selects RX7 yX7_makeMix yX7_makeMix, Cond.code yX7_makeMix cX7_makeMix 6 none, Cond.fieldLink RX7 104 "MeshFieldModel" "letterMask" "[I", Cond.fieldLink RX7 107 "MeshFieldModel" "letterData" "[I", Cond.fieldLink RX7 44 "MeshFieldModel" "data" "[I", Cond.methodLink RX7 127 yX7_draw, Cond.instanceMethod yX7_draw, Cond.selects RX7 yX7_draw yX7_draw, Cond.code yX7_draw cX7_draw 2 (some .int), Cond.fieldLink RX7 7 "MeshFieldModel" "s" "I", Cond.constant RX7 126 (1103515245)]
def wsX7_ticks_r3 : List Cond := [Cond.methodLink RX7 192 yX7_listen, Cond.instanceMethod yX7_listen, Cond.selects RX7 yX7_listen yX7_listen, Cond.code yX7_listen cX7_listen 5 none, Cond.fieldLink RX7 29 "MeshFieldModel" "odds" "[I", Cond.fieldLink RX7 116 "MeshFieldModel" "from" "[I", Cond.fieldLink RX7 71 "MeshFieldModel" "spoilt" "[I", Cond.fieldLink RX7 74 "MeshFieldModel" "lost" "[I", Cond.methodLink RX7 195 yX7_work, Cond.instanceMethod yX7_work, Cond.selects RX7 yX7_work yX7_work, Cond.code yX7_work cX7_work 3 none, Cond.methodLink RX7 172 yX7_tell, Cond.instanceMethod yX7_tell, Cond.selects RX7 yX7_tell yX7_tell, Cond.code yX7_tell cX7_tell 6 none, Cond.fieldLink RX7 22 "MeshFieldModel" "wait" "I", Cond.methodLink RX7 155 yX7_stir, Cond.instanceMethod yX7_stir, Cond.selects RX7 yX7_stir yX7_stir, Cond.code yX7_stir cX7_stir 2 none, Cond.fieldLink RX7 50 "MeshFieldModel" "span" "[I", Cond.fieldLink RX7 16 "MeshFieldModel" "low" "I", Cond.methodLink RX7 134 yX7_begin]
def wsX7_ticks_r4 : List Cond := [Cond.instanceMethod yX7_begin, Cond.selects RX7 yX7_begin yX7_begin, Cond.code yX7_begin cX7_begin 3 none, Cond.fieldLink RX7 53 "MeshFieldModel" "began" "[I", Cond.methodLink RX7 175 yX7_mix, Cond.instanceMethod yX7_mix, Cond.selects RX7 yX7_mix yX7_mix, Cond.code yX7_mix cX7_mix 3 none, Cond.methodLink RX7 151 yX7_empty, Cond.instanceMethod yX7_empty, Cond.selects RX7 yX7_empty yX7_empty, Cond.code yX7_empty cX7_empty 3 none, Cond.methodLink RX7 162 yX7_own, Cond.instanceMethod yX7_own, Cond.selects RX7 yX7_own yX7_own, Cond.code yX7_own cX7_own 4 none, Cond.methodLink RX7 159 yX7_comesIn, Cond.instanceMethod yX7_comesIn, Cond.selects RX7 yX7_comesIn yX7_comesIn, Cond.code yX7_comesIn cX7_comesIn 8 (some .boolean), Cond.fieldLink RX7 77 "MeshFieldModel" "lies" "[I", Cond.methodLink RX7 148 yX7_sumOf, Cond.instanceMethod yX7_sumOf, Cond.selects RX7 yX7_sumOf yX7_sumOf]
def wsX7_ticks_r5 : List Cond := [Cond.code yX7_sumOf cX7_sumOf 4 (some .int), Cond.methodLink RX7 198 yX7_finish, Cond.instanceMethod yX7_finish, Cond.selects RX7 yX7_finish yX7_finish, Cond.code yX7_finish cX7_finish 2 none, Cond.fieldLink RX7 19 "MeshFieldModel" "high" "I", Cond.fieldLink RX7 47 "MeshFieldModel" "runs" "[I", Cond.methodLink RX7 178 yX7_isWhole, Cond.instanceMethod yX7_isWhole, Cond.selects RX7 yX7_isWhole yX7_isWhole, Cond.code yX7_isWhole cX7_isWhole 2 (some .boolean), Cond.methodLink RX7 201 yX7_look, Cond.instanceMethod yX7_look, Cond.selects RX7 yX7_look yX7_look, Cond.code yX7_look cX7_look 4 none, Cond.fieldLink RX7 185 "MeshFieldModel" "greatest" "I", Cond.fieldLink RX7 86 "MeshFieldModel" "firstWhole" "I", Cond.methodLink RX7 181 yX7_greatestKept, Cond.instanceMethod yX7_greatestKept, Cond.selects RX7 yX7_greatestKept yX7_greatestKept, Cond.code yX7_greatestKept cX7_greatestKept 3 (some .int)]
def wsX7_ticks : List Cond := .code yX7_ticks cX7_ticks 4 (some .int) :: ((wsX7_ticks_r1 ++ (wsX7_ticks_r2 ++ (wsX7_ticks_r3 ++ (wsX7_ticks_r4 ++ wsX7_ticks_r5)))) ++ wsX70)
def wsX7_headOf : List Cond := .code yX7_headOf cX7_headOf 5 (some .int) :: ([.fieldLink RX7 41 "MeshFieldModel" "mask" "[I"] ++ wsX70)
def wsX7_machineOf_r1 : List Cond := [Cond.fieldLink RX7 41 "MeshFieldModel" "mask" "[I", Cond.fieldLink RX7 32 "MeshFieldModel" "number" "[I", Cond.fieldLink RX7 35 "MeshFieldModel" "many" "[I", Cond.fieldLink RX7 47 "MeshFieldModel" "runs" "[I", Cond.fieldLink RX7 50 "MeshFieldModel" "span" "[I", Cond.fieldLink RX7 53 "MeshFieldModel" "began" "[I", Cond.fieldLink RX7 56 "MeshFieldModel" "tellsAt" "[I", Cond.fieldLink RX7 59 "MeshFieldModel" "heard" "[I", Cond.fieldLink RX7 62 "MeshFieldModel" "dataAt" "[I", Cond.fieldLink RX7 65 "MeshFieldModel" "tells" "[I", Cond.fieldLink RX7 68 "MeshFieldModel" "mixes" "[I", Cond.fieldLink RX7 71 "MeshFieldModel" "spoilt" "[I", Cond.fieldLink RX7 74 "MeshFieldModel" "lost" "[I", Cond.fieldLink RX7 77 "MeshFieldModel" "lies" "[I", Cond.fieldLink RX7 80 "MeshFieldModel" "turnNumber" "[I", Cond.fieldLink RX7 83 "MeshFieldModel" "turnTick" "[I", Cond.methodLink RX7 138 yX7_isMachine, Cond.instanceMethod yX7_isMachine, Cond.selects RX7 yX7_isMachine yX7_isMachine, Cond.initialized RX7, Cond.code yX7_isMachine cX7_isMachine 2 (some .boolean), Cond.fieldLink RX7 119 "MeshFieldModel" "machines" "I", Cond.methodLink RX7 122 yX7_isIn, Cond.static yX7_isIn]
def wsX7_machineOf_r2 : List Cond := [Cond.code yX7_isIn cX7_isIn 3 (some .boolean), Cond.methodLink RX7 204 yX7_headOf, Cond.instanceMethod yX7_headOf, Cond.selects RX7 yX7_headOf yX7_headOf, Cond.code yX7_headOf cX7_headOf 5 (some .int), Cond.methodLink RX7 145 yX7_rank, Cond.instanceMethod yX7_rank, Cond.selects RX7 yX7_rank yX7_rank, Cond.code yX7_rank cX7_rank 4 (some .int), Cond.methodLink RX7 178 yX7_isWhole, Cond.instanceMethod yX7_isWhole, Cond.selects RX7 yX7_isWhole yX7_isWhole, Cond.code yX7_isWhole cX7_isWhole 2 (some .boolean)]
def wsX7_machineOf : List Cond := .code yX7_machineOf cX7_machineOf 4 (some .int) :: ((wsX7_machineOf_r1 ++ wsX7_machineOf_r2) ++ wsX70)
def wsX7_data : List Cond := .code yX7_data cX7_data 4 (some .int) :: ([.fieldLink RX7 44 "MeshFieldModel" "data" "[I", .methodLink RX7 138 yX7_isMachine, .instanceMethod yX7_isMachine, .selects RX7 yX7_isMachine yX7_isMachine, .initialized RX7, .code yX7_isMachine cX7_isMachine 2 (some .boolean), .fieldLink RX7 119 "MeshFieldModel" "machines" "I", .methodLink RX7 122 yX7_isIn, .static yX7_isIn, .code yX7_isIn cX7_isIn 3 (some .boolean), .methodLink RX7 204 yX7_headOf, .instanceMethod yX7_headOf, .selects RX7 yX7_headOf yX7_headOf, .code yX7_headOf cX7_headOf 5 (some .int), .fieldLink RX7 41 "MeshFieldModel" "mask" "[I"] ++ wsX70)
def wsX7_sum : List Cond := .code yX7_sum cX7_sum 2 (some .int) :: ([.fieldLink RX7 38 "MeshFieldModel" "sum" "[I", .methodLink RX7 138 yX7_isMachine, .instanceMethod yX7_isMachine, .selects RX7 yX7_isMachine yX7_isMachine, .initialized RX7, .code yX7_isMachine cX7_isMachine 2 (some .boolean), .fieldLink RX7 119 "MeshFieldModel" "machines" "I", .methodLink RX7 122 yX7_isIn, .static yX7_isIn, .code yX7_isIn cX7_isIn 3 (some .boolean)] ++ wsX70)
def wsX7_about : List Cond := .code yX7_about cX7_about 5 (some .int) :: ([.fieldLink RX7 119 "MeshFieldModel" "machines" "I", .fieldLink RX7 47 "MeshFieldModel" "runs" "[I", .fieldLink RX7 131 "MeshFieldModel" "tick" "I", .fieldLink RX7 166 "MeshFieldModel" "sent" "I", .fieldLink RX7 142 "MeshFieldModel" "pieces" "I", .fieldLink RX7 185 "MeshFieldModel" "greatest" "I", .fieldLink RX7 86 "MeshFieldModel" "firstWhole" "I", .methodLink RX7 181 yX7_greatestKept, .instanceMethod yX7_greatestKept, .selects RX7 yX7_greatestKept yX7_greatestKept, .initialized RX7, .code yX7_greatestKept cX7_greatestKept 3 (some .int), .fieldLink RX7 32 "MeshFieldModel" "number" "[I"] ++ wsX70)
def wsJ9_min_7cf53 : List Cond := .code yJ9_min_7cf53 cJ9_min_7cf53 2 (some .int) :: ([])
def wsL_law_r1 : List Cond := [Cond.classLink RL 7 RX6, Cond.instantiable RX6 10, Cond.initialized RX6, Cond.classLink RL 10 RX7, Cond.instantiable RX7 41, Cond.initialized RX7, Cond.methodLink RL 9 yX6_init, Cond.instanceMethod yX6_init, Cond.code yX6_init cX6_init 1 none, Cond.methodLink RX6 1 objectInit, Cond.instanceMethod objectInit, Cond.code objectInit ⟨#[0xb1]⟩ 1 none, Cond.classLink RX6 7 RX1, Cond.instantiable RX1 1, Cond.initialized RX1, Cond.fieldLink RX6 10 "MeshField" "draws" "LMeshField$Draws;", Cond.classLink RX6 16 RX5, Cond.instantiable RX5 4, Cond.initialized RX5, Cond.fieldLink RX6 19 "MeshField" "fieldRules" "LMeshField$Rules;", Cond.classLink RX6 23 RX4, Cond.fieldLink RX6 25 "MeshField" "machines" "[LMeshField$Machine;", Cond.arrayClass .int, Cond.fieldLink RX6 29 "MeshField" "lossOdds" "[I"]
def wsL_law_r2 : List Cond := [Cond.fieldLink RX6 39 "MeshField" "toldPieces" "[I", Cond.fieldLink RX6 42 "MeshField" "allWholeAt" "I", Cond.instanceMethod yX1_init, Cond.code yX1_init cX1_init 1 none, Cond.methodLink RX1 1 objectInit, Cond.fieldLink RX1 7 "MeshField$Draws" "state" "I", Cond.instanceMethod yX5_init, Cond.code yX5_init cX5_init 1 none, Cond.methodLink RX5 1 objectInit, Cond.fieldLink RX5 7 "MeshField$Rules" "few" "I", Cond.fieldLink RX5 13 "MeshField$Rules" "low" "I", Cond.fieldLink RX5 16 "MeshField$Rules" "high" "I", Cond.fieldLink RX5 19 "MeshField$Rules" "wait" "I", Cond.methodLink RX6 33 yJ7_fill_53178, Cond.static yJ7_fill_53178, Cond.initialized RJ7, Cond.code yJ7_fill_53178 cJ7_fill_53178 4 none, Cond.methodLink RL 12 yX7_init, Cond.instanceMethod yX7_init, Cond.code yX7_init cX7_init 2 none, Cond.methodLink RX7 1 objectInit, Cond.fieldLink RX7 7 "MeshFieldModel" "s" "I", Cond.fieldLink RX7 13 "MeshFieldModel" "few" "I", Cond.fieldLink RX7 16 "MeshFieldModel" "low" "I"]
def wsL_law_r3 : List Cond := [Cond.fieldLink RX7 19 "MeshFieldModel" "high" "I", Cond.fieldLink RX7 22 "MeshFieldModel" "wait" "I", Cond.fieldLink RX7 25 "MeshFieldModel" "told" "[I", Cond.fieldLink RX7 29 "MeshFieldModel" "odds" "[I", Cond.fieldLink RX7 32 "MeshFieldModel" "number" "[I", Cond.fieldLink RX7 35 "MeshFieldModel" "many" "[I", Cond.fieldLink RX7 38 "MeshFieldModel" "sum" "[I", Cond.fieldLink RX7 41 "MeshFieldModel" "mask" "[I", Cond.fieldLink RX7 44 "MeshFieldModel" "data" "[I", Cond.fieldLink RX7 47 "MeshFieldModel" "runs" "[I", Cond.fieldLink RX7 50 "MeshFieldModel" "span" "[I", Cond.fieldLink RX7 53 "MeshFieldModel" "began" "[I", Cond.fieldLink RX7 56 "MeshFieldModel" "tellsAt" "[I", Cond.fieldLink RX7 59 "MeshFieldModel" "heard" "[I", Cond.fieldLink RX7 62 "MeshFieldModel" "dataAt" "[I", Cond.fieldLink RX7 65 "MeshFieldModel" "tells" "[I", Cond.fieldLink RX7 68 "MeshFieldModel" "mixes" "[I", Cond.fieldLink RX7 71 "MeshFieldModel" "spoilt" "[I", Cond.fieldLink RX7 74 "MeshFieldModel" "lost" "[I", Cond.fieldLink RX7 77 "MeshFieldModel" "lies" "[I", Cond.fieldLink RX7 80 "MeshFieldModel" "turnNumber" "[I", Cond.fieldLink RX7 83 "MeshFieldModel" "turnTick" "[I", Cond.fieldLink RX7 86 "MeshFieldModel" "firstWhole" "I", Cond.fieldLink RX7 89 "MeshFieldModel" "sends" "[I"]
def wsL_law_r4 : List Cond := [Cond.fieldLink RX7 92 "MeshFieldModel" "letterNumber" "[I", Cond.fieldLink RX7 95 "MeshFieldModel" "letterMany" "[I", Cond.fieldLink RX7 98 "MeshFieldModel" "letterSum" "[I", Cond.fieldLink RX7 101 "MeshFieldModel" "letterRank" "[I", Cond.fieldLink RX7 104 "MeshFieldModel" "letterMask" "[I", Cond.fieldLink RX7 107 "MeshFieldModel" "letterData" "[I", Cond.fieldLink RX7 110 "MeshFieldModel" "letterTurn" "[I", Cond.fieldLink RX7 113 "MeshFieldModel" "letterTick" "[I", Cond.fieldLink RX7 116 "MeshFieldModel" "from" "[I", Cond.methodLink RL 13 yX6_seed, Cond.instanceMethod yX6_seed, Cond.selects RX6 yX6_seed yX6_seed, Cond.code yX6_seed cX6_seed 2 none, Cond.methodLink RL 17 yX7_seed, Cond.instanceMethod yX7_seed, Cond.selects RX7 yX7_seed yX7_seed, Cond.code yX7_seed cX7_seed 2 none, Cond.methodLink RL 18 yX6_rules, Cond.instanceMethod yX6_rules, Cond.selects RX6 yX6_rules yX6_rules, Cond.code yX6_rules cX6_rules 6 (some .boolean), Cond.fieldLink RX6 53 "MeshField" "machineCount" "I", Cond.methodLink RX6 49 yX6_within, Cond.static yX6_within]
def wsL_law_r5 : List Cond := [Cond.code yX6_within cX6_within 3 (some .boolean), Cond.methodLink RL 22 yX7_rules, Cond.instanceMethod yX7_rules, Cond.selects RX7 yX7_rules yX7_rules, Cond.code yX7_rules cX7_rules 5 (some .boolean), Cond.fieldLink RX7 119 "MeshFieldModel" "machines" "I", Cond.methodLink RX7 122 yX7_isIn, Cond.static yX7_isIn, Cond.code yX7_isIn cX7_isIn 3 (some .boolean), Cond.methodLink RL 23 yX6_machine, Cond.instanceMethod yX6_machine, Cond.selects RX6 yX6_machine yX6_machine, Cond.code yX6_machine cX6_machine 3 (some .int), Cond.instantiable RX4 18, Cond.initialized RX4, Cond.fieldLink RX6 75 "MeshField" "now" "I", Cond.methodLink RX6 68 yX4_init, Cond.instanceMethod yX4_init, Cond.code yX4_init cX4_init 3 none, Cond.methodLink RX4 3 objectInit, Cond.classLink RX4 9 RX0, Cond.instantiable RX0 3, Cond.initialized RX0, Cond.fieldLink RX4 12 "MeshField$Machine" "basis" "LMeshField$Basis;"]
def wsL_law_r6 : List Cond := [Cond.classLink RX4 18 RX2, Cond.instantiable RX2 4, Cond.initialized RX2, Cond.fieldLink RX4 21 "MeshField$Machine" "interval" "LMeshField$Interval;", Cond.classLink RX4 25 RX3, Cond.instantiable RX3 9, Cond.initialized RX3, Cond.fieldLink RX4 28 "MeshField$Machine" "letter" "LMeshField$Letter;", Cond.fieldLink RX4 32 "MeshField$Machine" "dataAt" "I", Cond.fieldLink RX4 36 "MeshField$Machine" "rules" "LMeshField$Rules;", Cond.fieldLink RX4 40 "MeshField$Machine" "draws" "LMeshField$Draws;", Cond.instanceMethod yX0_init, Cond.code yX0_init cX0_init 1 none, Cond.methodLink RX0 3 objectInit, Cond.fieldLink RX0 9 "MeshField$Basis" "masks" "[I", Cond.fieldLink RX0 15 "MeshField$Basis" "mixed" "[I", Cond.instanceMethod yX2_init, Cond.code yX2_init cX2_init 1 none, Cond.methodLink RX2 1 objectInit, Cond.instanceMethod yX3_init, Cond.code yX3_init cX3_init 1 none, Cond.methodLink RX3 1 objectInit, Cond.methodLink RX6 78 yX2_begin, Cond.instanceMethod yX2_begin]
def wsL_law_r7 : List Cond := [Cond.selects RX2 yX2_begin yX2_begin, Cond.code yX2_begin cX2_begin 4 none, Cond.fieldLink RX2 7 "MeshField$Interval" "span" "I", Cond.fieldLink RX2 13 "MeshField$Interval" "began" "I", Cond.fieldLink RX2 16 "MeshField$Interval" "heard" "I", Cond.fieldLink RX2 25 "MeshField$Interval" "tellsAt" "I", Cond.methodLink RX2 19 yX1_below, Cond.instanceMethod yX1_below, Cond.selects RX1 yX1_below yX1_below, Cond.code yX1_below cX1_below 2 (some .int), Cond.constant RX1 13 (1103515245), Cond.methodLink RL 27 yX7_machine, Cond.instanceMethod yX7_machine, Cond.selects RX7 yX7_machine yX7_machine, Cond.code yX7_machine cX7_machine 2 (some .int), Cond.fieldLink RX7 131 "MeshFieldModel" "tick" "I", Cond.methodLink RX7 134 yX7_begin, Cond.instanceMethod yX7_begin, Cond.selects RX7 yX7_begin yX7_begin, Cond.code yX7_begin cX7_begin 3 none, Cond.methodLink RX7 127 yX7_draw, Cond.instanceMethod yX7_draw, Cond.selects RX7 yX7_draw yX7_draw, Cond.code yX7_draw cX7_draw 2 (some .int)]
def wsL_law_r8 : List Cond := [Cond.constant RX7 126 (1103515245), Cond.methodLink RL 28 yX6_hears, Cond.instanceMethod yX6_hears, Cond.selects RX6 yX6_hears yX6_hears, Cond.code yX6_hears cX6_hears 5 (some .boolean), Cond.methodLink RX6 84 yX6_machineAt, Cond.instanceMethod yX6_machineAt, Cond.selects RX6 yX6_machineAt yX6_machineAt, Cond.code yX6_machineAt cX6_machineAt 2 (some (.object "MeshField$Machine")), Cond.methodLink RX6 88 yX6_pairOf, Cond.instanceMethod yX6_pairOf, Cond.selects RX6 yX6_pairOf yX6_pairOf, Cond.code yX6_pairOf cX6_pairOf 4 (some .int), Cond.methodLink RL 32 yX7_hears, Cond.instanceMethod yX7_hears, Cond.selects RX7 yX7_hears yX7_hears, Cond.code yX7_hears cX7_hears 4 (some .boolean), Cond.methodLink RX7 138 yX7_isMachine, Cond.instanceMethod yX7_isMachine, Cond.selects RX7 yX7_isMachine yX7_isMachine, Cond.code yX7_isMachine cX7_isMachine 2 (some .boolean), Cond.methodLink RL 33 yX6_piece, Cond.instanceMethod yX6_piece, Cond.selects RX6 yX6_piece yX6_piece]
def wsL_law_r9 : List Cond := [Cond.code yX6_piece cX6_piece 2 (some .int), Cond.fieldLink RX6 92 "MeshField" "toldCount" "I", Cond.methodLink RL 37 yX7_piece, Cond.instanceMethod yX7_piece, Cond.selects RX7 yX7_piece yX7_piece, Cond.code yX7_piece cX7_piece 2 (some .int), Cond.fieldLink RX7 142 "MeshFieldModel" "pieces" "I", Cond.methodLink RL 38 yX6_load, Cond.instanceMethod yX6_load, Cond.selects RX6 yX6_load yX6_load, Cond.code yX6_load cX6_load 4 (some .int), Cond.fieldLink RX6 106 "MeshField" "greatestNumber" "I", Cond.methodLink RX6 98 yX4_keepWhole, Cond.instanceMethod yX4_keepWhole, Cond.selects RX4 yX4_keepWhole yX4_keepWhole, Cond.code yX4_keepWhole cX4_keepWhole 5 none, Cond.fieldLink RX4 56 "MeshField$Machine" "keptSum" "I", Cond.methodLink RX4 44 yX4_keep, Cond.instanceMethod yX4_keep, Cond.selects RX4 yX4_keep yX4_keep, Cond.code yX4_keep cX4_keep 4 none, Cond.fieldLink RX4 59 "MeshField$Machine" "number" "I", Cond.fieldLink RX4 62 "MeshField$Machine" "pieces" "I", Cond.methodLink RX4 65 yX0_empty]
def wsL_law_r10 : List Cond := [Cond.instanceMethod yX0_empty, Cond.selects RX0 yX0_empty yX0_empty, Cond.code yX0_empty cX0_empty 1 none, Cond.fieldLink RX0 24 "MeshField$Basis" "rank" "I", Cond.methodLink RX0 18 yJ7_fill_53178, Cond.methodLink RX4 48 yX0_takeIn, Cond.instanceMethod yX0_takeIn, Cond.selects RX0 yX0_takeIn yX0_takeIn, Cond.code yX0_takeIn cX0_takeIn 7 (some .boolean), Cond.methodLink RX0 28 yX0_has, Cond.static yX0_has, Cond.code yX0_has cX0_has 2 (some .boolean), Cond.methodLink RX0 32 yX0_headOf, Cond.static yX0_headOf, Cond.code yX0_headOf cX0_headOf 2 (some .int), Cond.methodLink RX4 52 yX0_sumOfPieces, Cond.instanceMethod yX0_sumOfPieces, Cond.selects RX0 yX0_sumOfPieces yX0_sumOfPieces, Cond.code yX0_sumOfPieces cX0_sumOfPieces 3 (some .int), Cond.methodLink RX6 102 yX4_stir, Cond.instanceMethod yX4_stir, Cond.selects RX4 yX4_stir yX4_stir, Cond.code yX4_stir cX4_stir 2 none, Cond.methodLink RX4 83 yX2_begin]
def wsL_law_r11 : List Cond := [Cond.methodLink RL 42 yX7_load, Cond.instanceMethod yX7_load, Cond.selects RX7 yX7_load yX7_load, Cond.code yX7_load cX7_load 4 (some .int), Cond.methodLink RX7 151 yX7_empty, Cond.instanceMethod yX7_empty, Cond.selects RX7 yX7_empty yX7_empty, Cond.code yX7_empty cX7_empty 3 none, Cond.methodLink RX7 148 yX7_sumOf, Cond.instanceMethod yX7_sumOf, Cond.selects RX7 yX7_sumOf yX7_sumOf, Cond.code yX7_sumOf cX7_sumOf 4 (some .int), Cond.methodLink RX7 155 yX7_stir, Cond.instanceMethod yX7_stir, Cond.selects RX7 yX7_stir yX7_stir, Cond.code yX7_stir cX7_stir 2 none, Cond.methodLink RL 43 yX6_turn, Cond.instanceMethod yX6_turn, Cond.selects RX6 yX6_turn yX6_turn, Cond.code yX6_turn cX6_turn 5 (some .boolean), Cond.constant RX6 118 (1000000), Cond.methodLink RX6 119 yX4_takeTurn, Cond.instanceMethod yX4_takeTurn, Cond.selects RX4 yX4_takeTurn yX4_takeTurn]
def wsL_law_r12 : List Cond := [Cond.code yX4_takeTurn cX4_takeTurn 3 (some .boolean), Cond.fieldLink RX4 87 "MeshField$Machine" "turnNumber" "I", Cond.fieldLink RX4 90 "MeshField$Machine" "turnTick" "I", Cond.methodLink RL 46 yX7_turn, Cond.instanceMethod yX7_turn, Cond.selects RX7 yX7_turn yX7_turn, Cond.code yX7_turn cX7_turn 4 (some .boolean), Cond.constant RX7 158 (1000000), Cond.methodLink RL 47 yX6_lie, Cond.instanceMethod yX6_lie, Cond.selects RX6 yX6_lie yX6_lie, Cond.code yX6_lie cX6_lie 5 (some .boolean), Cond.methodLink RX6 126 yX4_takeOwnMix, Cond.instanceMethod yX4_takeOwnMix, Cond.selects RX4 yX4_takeOwnMix yX4_takeOwnMix, Cond.code yX4_takeOwnMix cX4_takeOwnMix 3 (some .boolean), Cond.fieldLink RX4 160 "MeshField$Machine" "lies" "I", Cond.methodLink RL 50 yX7_lie, Cond.instanceMethod yX7_lie, Cond.selects RX7 yX7_lie yX7_lie, Cond.code yX7_lie cX7_lie 4 (some .boolean), Cond.methodLink RX7 162 yX7_own, Cond.instanceMethod yX7_own, Cond.selects RX7 yX7_own yX7_own]
def wsL_law_r13 : List Cond := [Cond.code yX7_own cX7_own 4 none, Cond.methodLink RX7 159 yX7_comesIn, Cond.instanceMethod yX7_comesIn, Cond.selects RX7 yX7_comesIn yX7_comesIn, Cond.code yX7_comesIn cX7_comesIn 8 (some .boolean), Cond.methodLink RX7 145 yX7_rank, Cond.instanceMethod yX7_rank, Cond.selects RX7 yX7_rank yX7_rank, Cond.code yX7_rank cX7_rank 4 (some .int), Cond.methodLink RL 51 yX6_cut, Cond.instanceMethod yX6_cut, Cond.selects RX6 yX6_cut yX6_cut, Cond.code yX6_cut cX6_cut 4 (some .boolean), Cond.methodLink RX6 129 yX4_losePower, Cond.instanceMethod yX4_losePower, Cond.selects RX4 yX4_losePower yX4_losePower, Cond.code yX4_losePower cX4_losePower 3 none, Cond.methodLink RX4 93 yX0_tearLeast, Cond.instanceMethod yX0_tearLeast, Cond.selects RX0 yX0_tearLeast yX0_tearLeast, Cond.code yX0_tearLeast cX0_tearLeast 2 none, Cond.methodLink RL 55 yX7_cut, Cond.instanceMethod yX7_cut, Cond.selects RX7 yX7_cut yX7_cut]
def wsL_law_r14 : List Cond := [Cond.code yX7_cut cX7_cut 4 (some .boolean), Cond.methodLink RL 56 yX6_ticks, Cond.instanceMethod yX6_ticks, Cond.selects RX6 yX6_ticks yX6_ticks, Cond.code yX6_ticks cX6_ticks 3 (some .int), Cond.constant RX6 133 (100000), Cond.methodLink RX6 134 yX6_sendLetters, Cond.instanceMethod yX6_sendLetters, Cond.selects RX6 yX6_sendLetters yX6_sendLetters, Cond.code yX6_sendLetters cX6_sendLetters 3 none, Cond.methodLink RX6 169 yX4_send, Cond.instanceMethod yX4_send, Cond.selects RX4 yX4_send yX4_send, Cond.code yX4_send cX4_send 3 none, Cond.fieldLink RX4 110 "MeshField$Machine" "mixesSent" "I", Cond.fieldLink RX4 122 "MeshField$Machine" "tellsSent" "I", Cond.methodLink RX4 96 yX1_below, Cond.methodLink RX4 102 yX0_mixInto, Cond.instanceMethod yX0_mixInto, Cond.selects RX0 yX0_mixInto yX0_mixInto, Cond.code yX0_mixInto cX0_mixInto 5 none, Cond.methodLink RX0 43 yX0_maskOfNth, Cond.instanceMethod yX0_maskOfNth, Cond.selects RX0 yX0_maskOfNth yX0_maskOfNth]
def wsL_law_r15 : List Cond := [Cond.code yX0_maskOfNth cX0_maskOfNth 3 (some .int), Cond.methodLink RX0 49 yX0_headOfNth, Cond.instanceMethod yX0_headOfNth, Cond.selects RX0 yX0_headOfNth yX0_headOfNth, Cond.code yX0_headOfNth cX0_headOfNth 4 (some .int), Cond.methodLink RX0 46 yX0_dataOfNth, Cond.instanceMethod yX0_dataOfNth, Cond.selects RX0 yX0_dataOfNth yX0_dataOfNth, Cond.code yX0_dataOfNth cX0_dataOfNth 3 (some .int), Cond.methodLink RX4 106 yX4_address, Cond.instanceMethod yX4_address, Cond.selects RX4 yX4_address yX4_address, Cond.code yX4_address cX4_address 2 none, Cond.methodLink RX6 137 yX6_hearLetters, Cond.instanceMethod yX6_hearLetters, Cond.selects RX6 yX6_hearLetters yX6_hearLetters, Cond.code yX6_hearLetters cX6_hearLetters 3 none, Cond.methodLink RX6 179 yX3_isSent, Cond.instanceMethod yX3_isSent, Cond.selects RX3 yX3_isSent yX3_isSent, Cond.code yX3_isSent cX3_isSent 1 (some .boolean), Cond.fieldLink RX3 7 "MeshField$Letter" "kind" "I", Cond.methodLink RX6 185 yX6_listen, Cond.instanceMethod yX6_listen]
def wsL_law_r16 : List Cond := [Cond.selects RX6 yX6_listen yX6_listen, Cond.code yX6_listen cX6_listen 9 none, Cond.methodLink RX6 189 yX6_oddsBetween, Cond.instanceMethod yX6_oddsBetween, Cond.selects RX6 yX6_oddsBetween yX6_oddsBetween, Cond.code yX6_oddsBetween cX6_oddsBetween 4 (some .int), Cond.methodLink RX6 195 yX1_below, Cond.methodLink RX6 140 yX6_letLettersWork, Cond.instanceMethod yX6_letLettersWork, Cond.selects RX6 yX6_letLettersWork yX6_letLettersWork, Cond.code yX6_letLettersWork cX6_letLettersWork 3 none, Cond.methodLink RX6 201 yX4_take, Cond.instanceMethod yX4_take, Cond.selects RX4 yX4_take yX4_take, Cond.code yX4_take cX4_take 3 none, Cond.methodLink RX4 136 yX4_takeTurn, Cond.methodLink RX4 139 yX4_takeTell, Cond.instanceMethod yX4_takeTell, Cond.selects RX4 yX4_takeTell yX4_takeTell, Cond.code yX4_takeTell cX4_takeTell 4 none, Cond.methodLink RX4 145 yX4_stir, Cond.methodLink RX4 142 yX4_takeMix, Cond.instanceMethod yX4_takeMix, Cond.selects RX4 yX4_takeMix yX4_takeMix]
def wsL_law_r17 : List Cond := [Cond.code yX4_takeMix cX4_takeMix 4 none, Cond.methodLink RX4 157 yX4_takeOwnMix, Cond.methodLink RX6 143 yX6_endTick, Cond.instanceMethod yX6_endTick, Cond.selects RX6 yX6_endTick yX6_endTick, Cond.code yX6_endTick cX6_endTick 3 none, Cond.methodLink RX6 205 yX4_end, Cond.instanceMethod yX4_end, Cond.selects RX4 yX4_end yX4_end, Cond.code yX4_end cX4_end 3 none, Cond.methodLink RX4 169 Lib.Math.min.name, Cond.static Lib.Math.min.name, Cond.initialized "java/lang/Math", Cond.code Lib.Math.min.name Lib.Math.min.code 2 (some .int), Cond.fieldLink RX4 179 "MeshField$Machine" "runs" "I", Cond.methodLink RX4 175 yX4_isWholeOf, Cond.instanceMethod yX4_isWholeOf, Cond.selects RX4 yX4_isWholeOf yX4_isWholeOf, Cond.code yX4_isWholeOf cX4_isWholeOf 2 (some .boolean), Cond.methodLink RX4 71 yX4_isWhole, Cond.instanceMethod yX4_isWhole, Cond.selects RX4 yX4_isWhole yX4_isWhole, Cond.code yX4_isWhole cX4_isWhole 1 (some .boolean), Cond.methodLink RX6 146 yX6_noteAllWhole]
def wsL_law_r18 : List Cond := [Cond.instanceMethod yX6_noteAllWhole, Cond.selects RX6 yX6_noteAllWhole yX6_noteAllWhole, Cond.code yX6_noteAllWhole cX6_noteAllWhole 3 none, Cond.methodLink RX6 208 yX4_isWholeOf, Cond.methodLink RL 59 yX7_ticks, Cond.instanceMethod yX7_ticks, Cond.selects RX7 yX7_ticks yX7_ticks, Cond.code yX7_ticks cX7_ticks 4 (some .int), Cond.constant RX7 188 (100000), Cond.methodLink RX7 189 yX7_send, Cond.instanceMethod yX7_send, Cond.selects RX7 yX7_send yX7_send, Cond.code yX7_send cX7_send 3 none, Cond.fieldLink RX7 166 "MeshFieldModel" "sent" "I", Cond.methodLink RX7 169 yX7_makeMix, Cond.instanceMethod yX7_makeMix, Cond.selects RX7 yX7_makeMix yX7_makeMix, Cond.code yX7_makeMix cX7_makeMix 6 none, Cond.methodLink RX7 192 yX7_listen, Cond.instanceMethod yX7_listen, Cond.selects RX7 yX7_listen yX7_listen, Cond.code yX7_listen cX7_listen 5 none, Cond.methodLink RX7 195 yX7_work, Cond.instanceMethod yX7_work]
def wsL_law_r19 : List Cond := [Cond.selects RX7 yX7_work yX7_work, Cond.code yX7_work cX7_work 3 none, Cond.methodLink RX7 172 yX7_tell, Cond.instanceMethod yX7_tell, Cond.selects RX7 yX7_tell yX7_tell, Cond.code yX7_tell cX7_tell 6 none, Cond.methodLink RX7 175 yX7_mix, Cond.instanceMethod yX7_mix, Cond.selects RX7 yX7_mix yX7_mix, Cond.code yX7_mix cX7_mix 3 none, Cond.methodLink RX7 198 yX7_finish, Cond.instanceMethod yX7_finish, Cond.selects RX7 yX7_finish yX7_finish, Cond.code yX7_finish cX7_finish 2 none, Cond.methodLink RX7 178 yX7_isWhole, Cond.instanceMethod yX7_isWhole, Cond.selects RX7 yX7_isWhole yX7_isWhole, Cond.code yX7_isWhole cX7_isWhole 2 (some .boolean), Cond.methodLink RX7 201 yX7_look, Cond.instanceMethod yX7_look, Cond.selects RX7 yX7_look yX7_look, Cond.code yX7_look cX7_look 4 none, Cond.fieldLink RX7 185 "MeshFieldModel" "greatest" "I", Cond.methodLink RX7 181 yX7_greatestKept]
def wsL_law_r20 : List Cond := [Cond.instanceMethod yX7_greatestKept, Cond.selects RX7 yX7_greatestKept yX7_greatestKept, Cond.code yX7_greatestKept cX7_greatestKept 3 (some .int), Cond.methodLink RL 60 yX6_machineOf, Cond.instanceMethod yX6_machineOf, Cond.selects RX6 yX6_machineOf yX6_machineOf, Cond.code yX6_machineOf cX6_machineOf 4 (some .int), Cond.methodLink RX6 149 yX0_maskOfNth, Cond.methodLink RX6 153 yX4_answer, Cond.instanceMethod yX4_answer, Cond.selects RX4 yX4_answer yX4_answer, Cond.code yX4_answer cX4_answer 2 (some .int), Cond.fieldLink RX4 182 "MeshField$Machine" "spoilt" "I", Cond.fieldLink RX4 185 "MeshField$Machine" "lost" "I", Cond.methodLink RL 63 yX7_machineOf, Cond.instanceMethod yX7_machineOf, Cond.selects RX7 yX7_machineOf yX7_machineOf, Cond.code yX7_machineOf cX7_machineOf 4 (some .int), Cond.methodLink RX7 204 yX7_headOf, Cond.instanceMethod yX7_headOf, Cond.selects RX7 yX7_headOf yX7_headOf, Cond.code yX7_headOf cX7_headOf 5 (some .int), Cond.methodLink RL 64 yX6_data, Cond.instanceMethod yX6_data]
def wsL_law_r21 : List Cond := [Cond.selects RX6 yX6_data yX6_data, Cond.code yX6_data cX6_data 4 (some .int), Cond.methodLink RX6 156 yX0_dataOfNth, Cond.methodLink RL 67 yX7_data, Cond.instanceMethod yX7_data, Cond.selects RX7 yX7_data yX7_data, Cond.code yX7_data cX7_data 4 (some .int), Cond.methodLink RL 68 yX6_sum, Cond.instanceMethod yX6_sum, Cond.selects RX6 yX6_sum yX6_sum, Cond.code yX6_sum cX6_sum 3 (some .int), Cond.methodLink RL 71 yX7_sum, Cond.instanceMethod yX7_sum, Cond.selects RX7 yX7_sum yX7_sum, Cond.code yX7_sum cX7_sum 2 (some .int), Cond.methodLink RL 72 yX6_about, Cond.instanceMethod yX6_about, Cond.selects RX6 yX6_about yX6_about, Cond.code yX6_about cX6_about 2 (some .int), Cond.methodLink RX6 162 yX6_lettersSent, Cond.instanceMethod yX6_lettersSent, Cond.selects RX6 yX6_lettersSent yX6_lettersSent, Cond.code yX6_lettersSent cX6_lettersSent 4 (some .int), Cond.methodLink RX6 166 yX6_runnersOfGreatest]
def wsL_law_r22 : List Cond := [Cond.instanceMethod yX6_runnersOfGreatest, Cond.selects RX6 yX6_runnersOfGreatest yX6_runnersOfGreatest, Cond.code yX6_runnersOfGreatest cX6_runnersOfGreatest 4 (some .int), Cond.methodLink RL 75 yX7_about, Cond.instanceMethod yX7_about, Cond.selects RX7 yX7_about yX7_about, Cond.code yX7_about cX7_about 5 (some .int)]
def wsL_law : List Cond := (wsL_law_r1 ++ (wsL_law_r2 ++ (wsL_law_r3 ++ (wsL_law_r4 ++ (wsL_law_r5 ++ (wsL_law_r6 ++ (wsL_law_r7 ++ (wsL_law_r8 ++ (wsL_law_r9 ++ (wsL_law_r10 ++ (wsL_law_r11 ++ (wsL_law_r12 ++ (wsL_law_r13 ++ (wsL_law_r14 ++ (wsL_law_r15 ++ (wsL_law_r16 ++ (wsL_law_r17 ++ (wsL_law_r18 ++ (wsL_law_r19 ++ (wsL_law_r20 ++ (wsL_law_r21 ++ wsL_law_r22))))))))))))))))))))) ++ wsX60 ++ wsX70 ++ wsX10 ++ wsX50 ++ wsX40 ++ wsX00 ++ wsX20 ++ wsX30 ++ ([] : List Cond)
theorem inlX0 : ∀ w ∈ wsX00, w ∈ wsL_law := fun _ h => List.mem_append_left _ (List.mem_append_left _ (List.mem_append_left _ (List.mem_append_right _ h)))
theorem inlX1 : ∀ w ∈ wsX10, w ∈ wsL_law := fun _ h => List.mem_append_left _ (List.mem_append_left _ (List.mem_append_left _ (List.mem_append_left _ (List.mem_append_left _ (List.mem_append_left _ (List.mem_append_right _ h))))))
theorem inlX2 : ∀ w ∈ wsX20, w ∈ wsL_law := fun _ h => List.mem_append_left _ (List.mem_append_left _ (List.mem_append_right _ h))
theorem inlX3 : ∀ w ∈ wsX30, w ∈ wsL_law := fun _ h => List.mem_append_left _ (List.mem_append_right _ h)
theorem inlX4 : ∀ w ∈ wsX40, w ∈ wsL_law := fun _ h => List.mem_append_left _ (List.mem_append_left _ (List.mem_append_left _ (List.mem_append_left _ (List.mem_append_right _ h))))
theorem inlX5 : ∀ w ∈ wsX50, w ∈ wsL_law := fun _ h => List.mem_append_left _ (List.mem_append_left _ (List.mem_append_left _ (List.mem_append_left _ (List.mem_append_left _ (List.mem_append_right _ h)))))
theorem inlX6 : ∀ w ∈ wsX60, w ∈ wsL_law := fun _ h => List.mem_append_left _ (List.mem_append_left _ (List.mem_append_left _ (List.mem_append_left _ (List.mem_append_left _ (List.mem_append_left _ (List.mem_append_left _ (List.mem_append_left _ (List.mem_append_right _ h))))))))
theorem inlX7 : ∀ w ∈ wsX70, w ∈ wsL_law := fun _ h => List.mem_append_left _ (List.mem_append_left _ (List.mem_append_left _ (List.mem_append_left _ (List.mem_append_left _ (List.mem_append_left _ (List.mem_append_left _ (List.mem_append_right _ h)))))))
end
section
theorem dX0_init_0 : decode cX0_init 0 = .ok (.aload_n 0, 1) := by decide +kernel
theorem dX0_init_1 : decode cX0_init 1 = .ok (.invokespecial 3, 3) := by decide +kernel
theorem dX0_init_4 : decode cX0_init 4 = .ok (.aload_n 0, 1) := by decide +kernel
theorem dX0_init_5 : decode cX0_init 5 = .ok (.bipush 12, 2) := by decide +kernel
theorem dX0_init_7 : decode cX0_init 7 = .ok (.newarray .int, 2) := by decide +kernel
theorem dX0_init_9 : decode cX0_init 9 = .ok (.putfield 9, 3) := by decide +kernel
theorem dX0_init_12 : decode cX0_init 12 = .ok (.aload_n 0, 1) := by decide +kernel
theorem dX0_init_13 : decode cX0_init 13 = .ok (.bipush 12, 2) := by decide +kernel
theorem dX0_init_15 : decode cX0_init 15 = .ok (.newarray .int, 2) := by decide +kernel
theorem dX0_init_17 : decode cX0_init 17 = .ok (.putfield 15, 3) := by decide +kernel
theorem dX0_init_20 : decode cX0_init 20 = .ok (.return_, 1) := by decide +kernel
set_option maxRecDepth 20000 in
theorem ggX0_empty_J7_fill_53178 : GoodIn wsX0_empty wsJ7_fill_53178 := goodIn_r _ [7] (by decide +kernel) (by decide +kernel)
set_option maxRecDepth 20000 in
theorem gX0_empty_J7_fill_53178 : GoodIn wsX0_empty (va_wsS RX0 18 yJ7_fill_53178 wsJ7_fill_53178) := goodIn_app (goodIn_of _ (by decide +kernel)) ggX0_empty_J7_fill_53178
theorem dX0_empty_0 : decode cX0_empty 0 = .ok (.aload_n 0, 1) := by decide +kernel
theorem dX0_empty_1 : decode cX0_empty 1 = .ok (.getfield 9, 3) := by decide +kernel
theorem dX0_empty_4 : decode cX0_empty 4 = .ok (.iconst 0, 1) := by decide +kernel
theorem dX0_empty_5 : decode cX0_empty 5 = .ok (.invokestatic 18, 3) := by decide +kernel
theorem dX0_empty_8 : decode cX0_empty 8 = .ok (.aload_n 0, 1) := by decide +kernel
theorem dX0_empty_9 : decode cX0_empty 9 = .ok (.getfield 15, 3) := by decide +kernel
theorem dX0_empty_12 : decode cX0_empty 12 = .ok (.iconst 0, 1) := by decide +kernel
theorem dX0_empty_13 : decode cX0_empty 13 = .ok (.invokestatic 18, 3) := by decide +kernel
theorem dX0_empty_16 : decode cX0_empty 16 = .ok (.aload_n 0, 1) := by decide +kernel
theorem dX0_empty_17 : decode cX0_empty 17 = .ok (.iconst 0, 1) := by decide +kernel
theorem dX0_empty_18 : decode cX0_empty 18 = .ok (.putfield 24, 3) := by decide +kernel
theorem dX0_empty_21 : decode cX0_empty 21 = .ok (.return_, 1) := by decide +kernel
set_option maxRecDepth 20000 in
theorem ggX0_takeIn_X0_has : GoodIn wsX0_takeIn wsX0_has := goodIn_r _ [7] (by decide +kernel) (by decide +kernel)
set_option maxRecDepth 20000 in
theorem gX0_takeIn_X0_has : GoodIn wsX0_takeIn (va_wsS RX0 28 yX0_has wsX0_has) := goodIn_app (goodIn_of _ (by decide +kernel)) ggX0_takeIn_X0_has
set_option maxRecDepth 20000 in
theorem ggX0_takeIn_X0_headOf : GoodIn wsX0_takeIn wsX0_headOf := goodIn_r _ [10, 4, 5, 6, 7] (by decide +kernel) (by decide +kernel)
set_option maxRecDepth 20000 in
theorem gX0_takeIn_X0_headOf : GoodIn wsX0_takeIn (va_wsS RX0 32 yX0_headOf wsX0_headOf) := goodIn_app (goodIn_of _ (by decide +kernel)) ggX0_takeIn_X0_headOf
theorem dX0_takeIn_0 : decode cX0_takeIn 0 = .ok (.iload_n 1, 1) := by decide +kernel
theorem dX0_takeIn_1 : decode cX0_takeIn 1 = .ok (.istore_n 3, 1) := by decide +kernel
theorem dX0_takeIn_2 : decode cX0_takeIn 2 = .ok (.iload_n 2, 1) := by decide +kernel
theorem dX0_takeIn_3 : decode cX0_takeIn 3 = .ok (.istore 4, 2) := by decide +kernel
theorem dX0_takeIn_5 : decode cX0_takeIn 5 = .ok (.iconst 0, 1) := by decide +kernel
theorem dX0_takeIn_6 : decode cX0_takeIn 6 = .ok (.istore 5, 2) := by decide +kernel
theorem dX0_takeIn_8 : decode cX0_takeIn 8 = .ok (.iload 5, 2) := by decide +kernel
theorem dX0_takeIn_10 : decode cX0_takeIn 10 = .ok (.bipush 12, 2) := by decide +kernel
theorem dX0_takeIn_12 : decode cX0_takeIn 12 = .ok (.if_icmp .ge 50, 3) := by decide +kernel
theorem dX0_takeIn_15 : decode cX0_takeIn 15 = .ok (.aload_n 0, 1) := by decide +kernel
theorem dX0_takeIn_16 : decode cX0_takeIn 16 = .ok (.getfield 9, 3) := by decide +kernel
theorem dX0_takeIn_19 : decode cX0_takeIn 19 = .ok (.iload 5, 2) := by decide +kernel
theorem dX0_takeIn_21 : decode cX0_takeIn 21 = .ok (.iaload, 1) := by decide +kernel
theorem dX0_takeIn_22 : decode cX0_takeIn 22 = .ok (.ifCond .eq 34, 3) := by decide +kernel
theorem dX0_takeIn_25 : decode cX0_takeIn 25 = .ok (.iload_n 3, 1) := by decide +kernel
theorem dX0_takeIn_26 : decode cX0_takeIn 26 = .ok (.iload 5, 2) := by decide +kernel
theorem dX0_takeIn_28 : decode cX0_takeIn 28 = .ok (.invokestatic 28, 3) := by decide +kernel
theorem dX0_takeIn_31 : decode cX0_takeIn 31 = .ok (.ifCond .eq 25, 3) := by decide +kernel
theorem dX0_takeIn_34 : decode cX0_takeIn 34 = .ok (.iload_n 3, 1) := by decide +kernel
theorem dX0_takeIn_35 : decode cX0_takeIn 35 = .ok (.aload_n 0, 1) := by decide +kernel
theorem dX0_takeIn_36 : decode cX0_takeIn 36 = .ok (.getfield 9, 3) := by decide +kernel
theorem dX0_takeIn_39 : decode cX0_takeIn 39 = .ok (.iload 5, 2) := by decide +kernel
theorem dX0_takeIn_41 : decode cX0_takeIn 41 = .ok (.iaload, 1) := by decide +kernel
theorem dX0_takeIn_42 : decode cX0_takeIn 42 = .ok (.ixor, 1) := by decide +kernel
theorem dX0_takeIn_43 : decode cX0_takeIn 43 = .ok (.istore_n 3, 1) := by decide +kernel
theorem dX0_takeIn_44 : decode cX0_takeIn 44 = .ok (.iload 4, 2) := by decide +kernel
theorem dX0_takeIn_46 : decode cX0_takeIn 46 = .ok (.aload_n 0, 1) := by decide +kernel
theorem dX0_takeIn_47 : decode cX0_takeIn 47 = .ok (.getfield 15, 3) := by decide +kernel
theorem dX0_takeIn_50 : decode cX0_takeIn 50 = .ok (.iload 5, 2) := by decide +kernel
theorem dX0_takeIn_52 : decode cX0_takeIn 52 = .ok (.iaload, 1) := by decide +kernel
theorem dX0_takeIn_53 : decode cX0_takeIn 53 = .ok (.ixor, 1) := by decide +kernel
theorem dX0_takeIn_54 : decode cX0_takeIn 54 = .ok (.istore 4, 2) := by decide +kernel
theorem dX0_takeIn_56 : decode cX0_takeIn 56 = .ok (.iinc 5 1, 3) := by decide +kernel
theorem dX0_takeIn_59 : decode cX0_takeIn 59 = .ok (.goto (-51), 3) := by decide +kernel
theorem dX0_takeIn_62 : decode cX0_takeIn 62 = .ok (.iload_n 3, 1) := by decide +kernel
theorem dX0_takeIn_63 : decode cX0_takeIn 63 = .ok (.invokestatic 32, 3) := by decide +kernel
theorem dX0_takeIn_66 : decode cX0_takeIn 66 = .ok (.istore 5, 2) := by decide +kernel
theorem dX0_takeIn_68 : decode cX0_takeIn 68 = .ok (.iload 5, 2) := by decide +kernel
theorem dX0_takeIn_70 : decode cX0_takeIn 70 = .ok (.iconst (-1), 1) := by decide +kernel
theorem dX0_takeIn_71 : decode cX0_takeIn 71 = .ok (.if_icmp .ne 5, 3) := by decide +kernel
theorem dX0_takeIn_74 : decode cX0_takeIn 74 = .ok (.iconst 0, 1) := by decide +kernel
theorem dX0_takeIn_75 : decode cX0_takeIn 75 = .ok (.ireturn, 1) := by decide +kernel
theorem dX0_takeIn_76 : decode cX0_takeIn 76 = .ok (.iconst 0, 1) := by decide +kernel
theorem dX0_takeIn_77 : decode cX0_takeIn 77 = .ok (.istore 6, 2) := by decide +kernel
theorem dX0_takeIn_79 : decode cX0_takeIn 79 = .ok (.iload 6, 2) := by decide +kernel
theorem dX0_takeIn_81 : decode cX0_takeIn 81 = .ok (.bipush 12, 2) := by decide +kernel
theorem dX0_takeIn_83 : decode cX0_takeIn 83 = .ok (.if_icmp .ge 47, 3) := by decide +kernel
theorem dX0_takeIn_86 : decode cX0_takeIn 86 = .ok (.aload_n 0, 1) := by decide +kernel
theorem dX0_takeIn_87 : decode cX0_takeIn 87 = .ok (.getfield 9, 3) := by decide +kernel
theorem dX0_takeIn_90 : decode cX0_takeIn 90 = .ok (.iload 6, 2) := by decide +kernel
theorem dX0_takeIn_92 : decode cX0_takeIn 92 = .ok (.iaload, 1) := by decide +kernel
theorem dX0_takeIn_93 : decode cX0_takeIn 93 = .ok (.iload 5, 2) := by decide +kernel
theorem dX0_takeIn_95 : decode cX0_takeIn 95 = .ok (.invokestatic 28, 3) := by decide +kernel
theorem dX0_takeIn_98 : decode cX0_takeIn 98 = .ok (.ifCond .eq 26, 3) := by decide +kernel
theorem dX0_takeIn_101 : decode cX0_takeIn 101 = .ok (.aload_n 0, 1) := by decide +kernel
theorem dX0_takeIn_102 : decode cX0_takeIn 102 = .ok (.getfield 9, 3) := by decide +kernel
theorem dX0_takeIn_105 : decode cX0_takeIn 105 = .ok (.iload 6, 2) := by decide +kernel
theorem dX0_takeIn_107 : decode cX0_takeIn 107 = .ok (.dup2, 1) := by decide +kernel
theorem dX0_takeIn_108 : decode cX0_takeIn 108 = .ok (.iaload, 1) := by decide +kernel
theorem dX0_takeIn_109 : decode cX0_takeIn 109 = .ok (.iload_n 3, 1) := by decide +kernel
theorem dX0_takeIn_110 : decode cX0_takeIn 110 = .ok (.ixor, 1) := by decide +kernel
theorem dX0_takeIn_111 : decode cX0_takeIn 111 = .ok (.iastore, 1) := by decide +kernel
theorem dX0_takeIn_112 : decode cX0_takeIn 112 = .ok (.aload_n 0, 1) := by decide +kernel
theorem dX0_takeIn_113 : decode cX0_takeIn 113 = .ok (.getfield 15, 3) := by decide +kernel
theorem dX0_takeIn_116 : decode cX0_takeIn 116 = .ok (.iload 6, 2) := by decide +kernel
theorem dX0_takeIn_118 : decode cX0_takeIn 118 = .ok (.dup2, 1) := by decide +kernel
theorem dX0_takeIn_119 : decode cX0_takeIn 119 = .ok (.iaload, 1) := by decide +kernel
theorem dX0_takeIn_120 : decode cX0_takeIn 120 = .ok (.iload 4, 2) := by decide +kernel
theorem dX0_takeIn_122 : decode cX0_takeIn 122 = .ok (.ixor, 1) := by decide +kernel
theorem dX0_takeIn_123 : decode cX0_takeIn 123 = .ok (.iastore, 1) := by decide +kernel
theorem dX0_takeIn_124 : decode cX0_takeIn 124 = .ok (.iinc 6 1, 3) := by decide +kernel
theorem dX0_takeIn_127 : decode cX0_takeIn 127 = .ok (.goto (-48), 3) := by decide +kernel
theorem dX0_takeIn_130 : decode cX0_takeIn 130 = .ok (.aload_n 0, 1) := by decide +kernel
theorem dX0_takeIn_131 : decode cX0_takeIn 131 = .ok (.getfield 9, 3) := by decide +kernel
theorem dX0_takeIn_134 : decode cX0_takeIn 134 = .ok (.iload 5, 2) := by decide +kernel
theorem dX0_takeIn_136 : decode cX0_takeIn 136 = .ok (.iload_n 3, 1) := by decide +kernel
theorem dX0_takeIn_137 : decode cX0_takeIn 137 = .ok (.iastore, 1) := by decide +kernel
theorem dX0_takeIn_138 : decode cX0_takeIn 138 = .ok (.aload_n 0, 1) := by decide +kernel
theorem dX0_takeIn_139 : decode cX0_takeIn 139 = .ok (.getfield 15, 3) := by decide +kernel
theorem dX0_takeIn_142 : decode cX0_takeIn 142 = .ok (.iload 5, 2) := by decide +kernel
theorem dX0_takeIn_144 : decode cX0_takeIn 144 = .ok (.iload 4, 2) := by decide +kernel
theorem dX0_takeIn_146 : decode cX0_takeIn 146 = .ok (.iastore, 1) := by decide +kernel
theorem dX0_takeIn_147 : decode cX0_takeIn 147 = .ok (.aload_n 0, 1) := by decide +kernel
theorem dX0_takeIn_148 : decode cX0_takeIn 148 = .ok (.dup, 1) := by decide +kernel
theorem dX0_takeIn_149 : decode cX0_takeIn 149 = .ok (.getfield 24, 3) := by decide +kernel
theorem dX0_takeIn_152 : decode cX0_takeIn 152 = .ok (.iconst 1, 1) := by decide +kernel
theorem dX0_takeIn_153 : decode cX0_takeIn 153 = .ok (.iadd, 1) := by decide +kernel
theorem dX0_takeIn_154 : decode cX0_takeIn 154 = .ok (.putfield 24, 3) := by decide +kernel
theorem dX0_takeIn_157 : decode cX0_takeIn 157 = .ok (.iconst 1, 1) := by decide +kernel
theorem dX0_takeIn_158 : decode cX0_takeIn 158 = .ok (.ireturn, 1) := by decide +kernel
theorem dX0_tearLeast_0 : decode cX0_tearLeast 0 = .ok (.iconst 0, 1) := by decide +kernel
theorem dX0_tearLeast_1 : decode cX0_tearLeast 1 = .ok (.istore_n 1, 1) := by decide +kernel
theorem dX0_tearLeast_2 : decode cX0_tearLeast 2 = .ok (.iload_n 1, 1) := by decide +kernel
theorem dX0_tearLeast_3 : decode cX0_tearLeast 3 = .ok (.bipush 12, 2) := by decide +kernel
theorem dX0_tearLeast_5 : decode cX0_tearLeast 5 = .ok (.if_icmp .ge 43, 3) := by decide +kernel
theorem dX0_tearLeast_8 : decode cX0_tearLeast 8 = .ok (.aload_n 0, 1) := by decide +kernel
theorem dX0_tearLeast_9 : decode cX0_tearLeast 9 = .ok (.getfield 9, 3) := by decide +kernel
theorem dX0_tearLeast_12 : decode cX0_tearLeast 12 = .ok (.iload_n 1, 1) := by decide +kernel
theorem dX0_tearLeast_13 : decode cX0_tearLeast 13 = .ok (.iaload, 1) := by decide +kernel
theorem dX0_tearLeast_14 : decode cX0_tearLeast 14 = .ok (.ifCond .eq 28, 3) := by decide +kernel
theorem dX0_tearLeast_17 : decode cX0_tearLeast 17 = .ok (.aload_n 0, 1) := by decide +kernel
theorem dX0_tearLeast_18 : decode cX0_tearLeast 18 = .ok (.getfield 9, 3) := by decide +kernel
theorem dX0_tearLeast_21 : decode cX0_tearLeast 21 = .ok (.iload_n 1, 1) := by decide +kernel
theorem dX0_tearLeast_22 : decode cX0_tearLeast 22 = .ok (.iconst 0, 1) := by decide +kernel
theorem dX0_tearLeast_23 : decode cX0_tearLeast 23 = .ok (.iastore, 1) := by decide +kernel
theorem dX0_tearLeast_24 : decode cX0_tearLeast 24 = .ok (.aload_n 0, 1) := by decide +kernel
theorem dX0_tearLeast_25 : decode cX0_tearLeast 25 = .ok (.getfield 15, 3) := by decide +kernel
theorem dX0_tearLeast_28 : decode cX0_tearLeast 28 = .ok (.iload_n 1, 1) := by decide +kernel
theorem dX0_tearLeast_29 : decode cX0_tearLeast 29 = .ok (.iconst 0, 1) := by decide +kernel
theorem dX0_tearLeast_30 : decode cX0_tearLeast 30 = .ok (.iastore, 1) := by decide +kernel
theorem dX0_tearLeast_31 : decode cX0_tearLeast 31 = .ok (.aload_n 0, 1) := by decide +kernel
theorem dX0_tearLeast_32 : decode cX0_tearLeast 32 = .ok (.dup, 1) := by decide +kernel
theorem dX0_tearLeast_33 : decode cX0_tearLeast 33 = .ok (.getfield 24, 3) := by decide +kernel
theorem dX0_tearLeast_36 : decode cX0_tearLeast 36 = .ok (.iconst 1, 1) := by decide +kernel
theorem dX0_tearLeast_37 : decode cX0_tearLeast 37 = .ok (.isub, 1) := by decide +kernel
theorem dX0_tearLeast_38 : decode cX0_tearLeast 38 = .ok (.putfield 24, 3) := by decide +kernel
theorem dX0_tearLeast_41 : decode cX0_tearLeast 41 = .ok (.return_, 1) := by decide +kernel
theorem dX0_tearLeast_42 : decode cX0_tearLeast 42 = .ok (.iinc 1 1, 3) := by decide +kernel
theorem dX0_tearLeast_45 : decode cX0_tearLeast 45 = .ok (.goto (-43), 3) := by decide +kernel
theorem dX0_tearLeast_48 : decode cX0_tearLeast 48 = .ok (.return_, 1) := by decide +kernel
set_option maxRecDepth 20000 in
theorem ggX0_mixInto_X0_has : GoodIn wsX0_mixInto wsX0_has := goodIn_r _ [6] (by decide +kernel) (by decide +kernel)
set_option maxRecDepth 20000 in
theorem gX0_mixInto_X0_has : GoodIn wsX0_mixInto (va_wsS RX0 28 yX0_has wsX0_has) := goodIn_app (goodIn_of _ (by decide +kernel)) ggX0_mixInto_X0_has
set_option maxRecDepth 20000 in
theorem ggX0_mixInto_X0_maskOfNth : GoodIn wsX0_mixInto wsX0_maskOfNth := goodIn_r _ [10, 1, 11, 12, 13, 5, 14, 28, 29, 30] (by decide +kernel) (by decide +kernel)
set_option maxRecDepth 20000 in
theorem gX0_mixInto_X0_maskOfNth : GoodIn wsX0_mixInto (wsV RX0 43 RX0 yX0_maskOfNth wsX0_maskOfNth) := goodIn_app (goodIn_of _ (by decide +kernel)) ggX0_mixInto_X0_maskOfNth
set_option maxRecDepth 20000 in
theorem ggX0_mixInto_X0_dataOfNth : GoodIn wsX0_mixInto wsX0_dataOfNth := goodIn_r _ [18, 2, 11, 12, 13, 5, 14, 1, 28, 29, 30] (by decide +kernel) (by decide +kernel)
set_option maxRecDepth 20000 in
theorem gX0_mixInto_X0_dataOfNth : GoodIn wsX0_mixInto (wsV RX0 46 RX0 yX0_dataOfNth wsX0_dataOfNth) := goodIn_app (goodIn_of _ (by decide +kernel)) ggX0_mixInto_X0_dataOfNth
theorem dX0_mixInto_0 : decode cX0_mixInto 0 = .ok (.aload_n 1, 1) := by decide +kernel
theorem dX0_mixInto_1 : decode cX0_mixInto 1 = .ok (.iconst 0, 1) := by decide +kernel
theorem dX0_mixInto_2 : decode cX0_mixInto 2 = .ok (.putfield 36, 3) := by decide +kernel
theorem dX0_mixInto_5 : decode cX0_mixInto 5 = .ok (.aload_n 1, 1) := by decide +kernel
theorem dX0_mixInto_6 : decode cX0_mixInto 6 = .ok (.iconst 0, 1) := by decide +kernel
theorem dX0_mixInto_7 : decode cX0_mixInto 7 = .ok (.putfield 41, 3) := by decide +kernel
theorem dX0_mixInto_10 : decode cX0_mixInto 10 = .ok (.iconst 0, 1) := by decide +kernel
theorem dX0_mixInto_11 : decode cX0_mixInto 11 = .ok (.istore_n 3, 1) := by decide +kernel
theorem dX0_mixInto_12 : decode cX0_mixInto 12 = .ok (.bipush 11, 2) := by decide +kernel
theorem dX0_mixInto_14 : decode cX0_mixInto 14 = .ok (.istore 4, 2) := by decide +kernel
theorem dX0_mixInto_16 : decode cX0_mixInto 16 = .ok (.iload 4, 2) := by decide +kernel
theorem dX0_mixInto_18 : decode cX0_mixInto 18 = .ok (.ifCond .lt 62, 3) := by decide +kernel
theorem dX0_mixInto_21 : decode cX0_mixInto 21 = .ok (.aload_n 0, 1) := by decide +kernel
theorem dX0_mixInto_22 : decode cX0_mixInto 22 = .ok (.getfield 9, 3) := by decide +kernel
theorem dX0_mixInto_25 : decode cX0_mixInto 25 = .ok (.iload 4, 2) := by decide +kernel
theorem dX0_mixInto_27 : decode cX0_mixInto 27 = .ok (.iaload, 1) := by decide +kernel
theorem dX0_mixInto_28 : decode cX0_mixInto 28 = .ok (.ifCond .eq 46, 3) := by decide +kernel
theorem dX0_mixInto_31 : decode cX0_mixInto 31 = .ok (.iload_n 2, 1) := by decide +kernel
theorem dX0_mixInto_32 : decode cX0_mixInto 32 = .ok (.iload_n 3, 1) := by decide +kernel
theorem dX0_mixInto_33 : decode cX0_mixInto 33 = .ok (.invokestatic 28, 3) := by decide +kernel
theorem dX0_mixInto_36 : decode cX0_mixInto 36 = .ok (.ifCond .eq 35, 3) := by decide +kernel
theorem dX0_mixInto_39 : decode cX0_mixInto 39 = .ok (.aload_n 1, 1) := by decide +kernel
theorem dX0_mixInto_40 : decode cX0_mixInto 40 = .ok (.dup, 1) := by decide +kernel
theorem dX0_mixInto_41 : decode cX0_mixInto 41 = .ok (.getfield 36, 3) := by decide +kernel
theorem dX0_mixInto_44 : decode cX0_mixInto 44 = .ok (.aload_n 0, 1) := by decide +kernel
theorem dX0_mixInto_45 : decode cX0_mixInto 45 = .ok (.getfield 9, 3) := by decide +kernel
theorem dX0_mixInto_48 : decode cX0_mixInto 48 = .ok (.iload 4, 2) := by decide +kernel
theorem dX0_mixInto_50 : decode cX0_mixInto 50 = .ok (.iaload, 1) := by decide +kernel
theorem dX0_mixInto_51 : decode cX0_mixInto 51 = .ok (.ixor, 1) := by decide +kernel
theorem dX0_mixInto_52 : decode cX0_mixInto 52 = .ok (.putfield 36, 3) := by decide +kernel
theorem dX0_mixInto_55 : decode cX0_mixInto 55 = .ok (.aload_n 1, 1) := by decide +kernel
theorem dX0_mixInto_56 : decode cX0_mixInto 56 = .ok (.dup, 1) := by decide +kernel
theorem dX0_mixInto_57 : decode cX0_mixInto 57 = .ok (.getfield 41, 3) := by decide +kernel
theorem dX0_mixInto_60 : decode cX0_mixInto 60 = .ok (.aload_n 0, 1) := by decide +kernel
theorem dX0_mixInto_61 : decode cX0_mixInto 61 = .ok (.getfield 15, 3) := by decide +kernel
theorem dX0_mixInto_64 : decode cX0_mixInto 64 = .ok (.iload 4, 2) := by decide +kernel
theorem dX0_mixInto_66 : decode cX0_mixInto 66 = .ok (.iaload, 1) := by decide +kernel
theorem dX0_mixInto_67 : decode cX0_mixInto 67 = .ok (.ixor, 1) := by decide +kernel
theorem dX0_mixInto_68 : decode cX0_mixInto 68 = .ok (.putfield 41, 3) := by decide +kernel
theorem dX0_mixInto_71 : decode cX0_mixInto 71 = .ok (.iinc 3 1, 3) := by decide +kernel
theorem dX0_mixInto_74 : decode cX0_mixInto 74 = .ok (.iinc 4 (-1), 3) := by decide +kernel
theorem dX0_mixInto_77 : decode cX0_mixInto 77 = .ok (.goto (-61), 3) := by decide +kernel
theorem dX0_mixInto_80 : decode cX0_mixInto 80 = .ok (.aload_n 1, 1) := by decide +kernel
theorem dX0_mixInto_81 : decode cX0_mixInto 81 = .ok (.getfield 36, 3) := by decide +kernel
theorem dX0_mixInto_84 : decode cX0_mixInto 84 = .ok (.ifCond .ne 21, 3) := by decide +kernel
theorem dX0_mixInto_87 : decode cX0_mixInto 87 = .ok (.aload_n 1, 1) := by decide +kernel
theorem dX0_mixInto_88 : decode cX0_mixInto 88 = .ok (.aload_n 0, 1) := by decide +kernel
theorem dX0_mixInto_89 : decode cX0_mixInto 89 = .ok (.iconst 0, 1) := by decide +kernel
theorem dX0_mixInto_90 : decode cX0_mixInto 90 = .ok (.invokevirtual 43, 3) := by decide +kernel
theorem dX0_mixInto_93 : decode cX0_mixInto 93 = .ok (.putfield 36, 3) := by decide +kernel
theorem dX0_mixInto_96 : decode cX0_mixInto 96 = .ok (.aload_n 1, 1) := by decide +kernel
theorem dX0_mixInto_97 : decode cX0_mixInto 97 = .ok (.aload_n 0, 1) := by decide +kernel
theorem dX0_mixInto_98 : decode cX0_mixInto 98 = .ok (.iconst 0, 1) := by decide +kernel
theorem dX0_mixInto_99 : decode cX0_mixInto 99 = .ok (.invokevirtual 46, 3) := by decide +kernel
theorem dX0_mixInto_102 : decode cX0_mixInto 102 = .ok (.putfield 41, 3) := by decide +kernel
theorem dX0_mixInto_105 : decode cX0_mixInto 105 = .ok (.return_, 1) := by decide +kernel
theorem dX0_sumOfPieces_0 : decode cX0_sumOfPieces 0 = .ok (.iconst 0, 1) := by decide +kernel
theorem dX0_sumOfPieces_1 : decode cX0_sumOfPieces 1 = .ok (.istore_n 1, 1) := by decide +kernel
theorem dX0_sumOfPieces_2 : decode cX0_sumOfPieces 2 = .ok (.iconst 0, 1) := by decide +kernel
theorem dX0_sumOfPieces_3 : decode cX0_sumOfPieces 3 = .ok (.istore_n 2, 1) := by decide +kernel
theorem dX0_sumOfPieces_4 : decode cX0_sumOfPieces 4 = .ok (.iload_n 2, 1) := by decide +kernel
theorem dX0_sumOfPieces_5 : decode cX0_sumOfPieces 5 = .ok (.bipush 12, 2) := by decide +kernel
theorem dX0_sumOfPieces_7 : decode cX0_sumOfPieces 7 = .ok (.if_icmp .ge 22, 3) := by decide +kernel
theorem dX0_sumOfPieces_10 : decode cX0_sumOfPieces 10 = .ok (.iload_n 1, 1) := by decide +kernel
theorem dX0_sumOfPieces_11 : decode cX0_sumOfPieces 11 = .ok (.aload_n 0, 1) := by decide +kernel
theorem dX0_sumOfPieces_12 : decode cX0_sumOfPieces 12 = .ok (.getfield 15, 3) := by decide +kernel
theorem dX0_sumOfPieces_15 : decode cX0_sumOfPieces 15 = .ok (.iload_n 2, 1) := by decide +kernel
theorem dX0_sumOfPieces_16 : decode cX0_sumOfPieces 16 = .ok (.iaload, 1) := by decide +kernel
theorem dX0_sumOfPieces_17 : decode cX0_sumOfPieces 17 = .ok (.iload_n 2, 1) := by decide +kernel
theorem dX0_sumOfPieces_18 : decode cX0_sumOfPieces 18 = .ok (.iconst 1, 1) := by decide +kernel
theorem dX0_sumOfPieces_19 : decode cX0_sumOfPieces 19 = .ok (.iadd, 1) := by decide +kernel
theorem dX0_sumOfPieces_20 : decode cX0_sumOfPieces 20 = .ok (.imul, 1) := by decide +kernel
theorem dX0_sumOfPieces_21 : decode cX0_sumOfPieces 21 = .ok (.iadd, 1) := by decide +kernel
theorem dX0_sumOfPieces_22 : decode cX0_sumOfPieces 22 = .ok (.istore_n 1, 1) := by decide +kernel
theorem dX0_sumOfPieces_23 : decode cX0_sumOfPieces 23 = .ok (.iinc 2 1, 3) := by decide +kernel
theorem dX0_sumOfPieces_26 : decode cX0_sumOfPieces 26 = .ok (.goto (-22), 3) := by decide +kernel
theorem dX0_sumOfPieces_29 : decode cX0_sumOfPieces 29 = .ok (.iload_n 1, 1) := by decide +kernel
theorem dX0_sumOfPieces_30 : decode cX0_sumOfPieces 30 = .ok (.ireturn, 1) := by decide +kernel
set_option maxRecDepth 20000 in
theorem ggX0_maskOfNth_X0_headOfNth : GoodIn wsX0_maskOfNth wsX0_headOfNth := goodIn_r _ [6, 1, 7, 8, 9] (by decide +kernel) (by decide +kernel)
set_option maxRecDepth 20000 in
theorem gX0_maskOfNth_X0_headOfNth : GoodIn wsX0_maskOfNth (wsV RX0 49 RX0 yX0_headOfNth wsX0_headOfNth) := goodIn_app (goodIn_of _ (by decide +kernel)) ggX0_maskOfNth_X0_headOfNth
theorem dX0_maskOfNth_0 : decode cX0_maskOfNth 0 = .ok (.aload_n 0, 1) := by decide +kernel
theorem dX0_maskOfNth_1 : decode cX0_maskOfNth 1 = .ok (.iload_n 1, 1) := by decide +kernel
theorem dX0_maskOfNth_2 : decode cX0_maskOfNth 2 = .ok (.invokevirtual 49, 3) := by decide +kernel
theorem dX0_maskOfNth_5 : decode cX0_maskOfNth 5 = .ok (.istore_n 2, 1) := by decide +kernel
theorem dX0_maskOfNth_6 : decode cX0_maskOfNth 6 = .ok (.iload_n 2, 1) := by decide +kernel
theorem dX0_maskOfNth_7 : decode cX0_maskOfNth 7 = .ok (.iconst (-1), 1) := by decide +kernel
theorem dX0_maskOfNth_8 : decode cX0_maskOfNth 8 = .ok (.if_icmp .ne 7, 3) := by decide +kernel
theorem dX0_maskOfNth_11 : decode cX0_maskOfNth 11 = .ok (.iconst (-1), 1) := by decide +kernel
theorem dX0_maskOfNth_12 : decode cX0_maskOfNth 12 = .ok (.goto 9, 3) := by decide +kernel
theorem dX0_maskOfNth_15 : decode cX0_maskOfNth 15 = .ok (.aload_n 0, 1) := by decide +kernel
theorem dX0_maskOfNth_16 : decode cX0_maskOfNth 16 = .ok (.getfield 9, 3) := by decide +kernel
theorem dX0_maskOfNth_19 : decode cX0_maskOfNth 19 = .ok (.iload_n 2, 1) := by decide +kernel
theorem dX0_maskOfNth_20 : decode cX0_maskOfNth 20 = .ok (.iaload, 1) := by decide +kernel
theorem dX0_maskOfNth_21 : decode cX0_maskOfNth 21 = .ok (.ireturn, 1) := by decide +kernel
set_option maxRecDepth 20000 in
theorem ggX0_dataOfNth_X0_headOfNth : GoodIn wsX0_dataOfNth wsX0_headOfNth := goodIn_r _ [6, 7, 8, 9, 10] (by decide +kernel) (by decide +kernel)
set_option maxRecDepth 20000 in
theorem gX0_dataOfNth_X0_headOfNth : GoodIn wsX0_dataOfNth (wsV RX0 49 RX0 yX0_headOfNth wsX0_headOfNth) := goodIn_app (goodIn_of _ (by decide +kernel)) ggX0_dataOfNth_X0_headOfNth
theorem dX0_dataOfNth_0 : decode cX0_dataOfNth 0 = .ok (.aload_n 0, 1) := by decide +kernel
theorem dX0_dataOfNth_1 : decode cX0_dataOfNth 1 = .ok (.iload_n 1, 1) := by decide +kernel
theorem dX0_dataOfNth_2 : decode cX0_dataOfNth 2 = .ok (.invokevirtual 49, 3) := by decide +kernel
theorem dX0_dataOfNth_5 : decode cX0_dataOfNth 5 = .ok (.istore_n 2, 1) := by decide +kernel
theorem dX0_dataOfNth_6 : decode cX0_dataOfNth 6 = .ok (.iload_n 2, 1) := by decide +kernel
theorem dX0_dataOfNth_7 : decode cX0_dataOfNth 7 = .ok (.iconst (-1), 1) := by decide +kernel
theorem dX0_dataOfNth_8 : decode cX0_dataOfNth 8 = .ok (.if_icmp .ne 7, 3) := by decide +kernel
theorem dX0_dataOfNth_11 : decode cX0_dataOfNth 11 = .ok (.iconst 0, 1) := by decide +kernel
theorem dX0_dataOfNth_12 : decode cX0_dataOfNth 12 = .ok (.goto 9, 3) := by decide +kernel
theorem dX0_dataOfNth_15 : decode cX0_dataOfNth 15 = .ok (.aload_n 0, 1) := by decide +kernel
theorem dX0_dataOfNth_16 : decode cX0_dataOfNth 16 = .ok (.getfield 15, 3) := by decide +kernel
theorem dX0_dataOfNth_19 : decode cX0_dataOfNth 19 = .ok (.iload_n 2, 1) := by decide +kernel
theorem dX0_dataOfNth_20 : decode cX0_dataOfNth 20 = .ok (.iaload, 1) := by decide +kernel
theorem dX0_dataOfNth_21 : decode cX0_dataOfNth 21 = .ok (.ireturn, 1) := by decide +kernel
theorem dX0_headOfNth_0 : decode cX0_headOfNth 0 = .ok (.iconst 0, 1) := by decide +kernel
theorem dX0_headOfNth_1 : decode cX0_headOfNth 1 = .ok (.istore_n 2, 1) := by decide +kernel
theorem dX0_headOfNth_2 : decode cX0_headOfNth 2 = .ok (.bipush 11, 2) := by decide +kernel
theorem dX0_headOfNth_4 : decode cX0_headOfNth 4 = .ok (.istore_n 3, 1) := by decide +kernel
theorem dX0_headOfNth_5 : decode cX0_headOfNth 5 = .ok (.iload_n 3, 1) := by decide +kernel
theorem dX0_headOfNth_6 : decode cX0_headOfNth 6 = .ok (.ifCond .lt 28, 3) := by decide +kernel
theorem dX0_headOfNth_9 : decode cX0_headOfNth 9 = .ok (.aload_n 0, 1) := by decide +kernel
theorem dX0_headOfNth_10 : decode cX0_headOfNth 10 = .ok (.getfield 9, 3) := by decide +kernel
theorem dX0_headOfNth_13 : decode cX0_headOfNth 13 = .ok (.iload_n 3, 1) := by decide +kernel
theorem dX0_headOfNth_14 : decode cX0_headOfNth 14 = .ok (.iaload, 1) := by decide +kernel
theorem dX0_headOfNth_15 : decode cX0_headOfNth 15 = .ok (.ifCond .eq 13, 3) := by decide +kernel
theorem dX0_headOfNth_18 : decode cX0_headOfNth 18 = .ok (.iload_n 2, 1) := by decide +kernel
theorem dX0_headOfNth_19 : decode cX0_headOfNth 19 = .ok (.iload_n 1, 1) := by decide +kernel
theorem dX0_headOfNth_20 : decode cX0_headOfNth 20 = .ok (.if_icmp .ne 5, 3) := by decide +kernel
theorem dX0_headOfNth_23 : decode cX0_headOfNth 23 = .ok (.iload_n 3, 1) := by decide +kernel
theorem dX0_headOfNth_24 : decode cX0_headOfNth 24 = .ok (.ireturn, 1) := by decide +kernel
theorem dX0_headOfNth_25 : decode cX0_headOfNth 25 = .ok (.iinc 2 1, 3) := by decide +kernel
theorem dX0_headOfNth_28 : decode cX0_headOfNth 28 = .ok (.iinc 3 (-1), 3) := by decide +kernel
theorem dX0_headOfNth_31 : decode cX0_headOfNth 31 = .ok (.goto (-26), 3) := by decide +kernel
theorem dX0_headOfNth_34 : decode cX0_headOfNth 34 = .ok (.iconst (-1), 1) := by decide +kernel
theorem dX0_headOfNth_35 : decode cX0_headOfNth 35 = .ok (.ireturn, 1) := by decide +kernel
set_option maxRecDepth 20000 in
theorem ggX0_headOf_X0_has : GoodIn wsX0_headOf wsX0_has := goodIn_r _ [4] (by decide +kernel) (by decide +kernel)
set_option maxRecDepth 20000 in
theorem gX0_headOf_X0_has : GoodIn wsX0_headOf (va_wsS RX0 28 yX0_has wsX0_has) := goodIn_app (goodIn_of _ (by decide +kernel)) ggX0_headOf_X0_has
theorem dX0_headOf_0 : decode cX0_headOf 0 = .ok (.bipush 11, 2) := by decide +kernel
theorem dX0_headOf_2 : decode cX0_headOf 2 = .ok (.istore_n 1, 1) := by decide +kernel
theorem dX0_headOf_3 : decode cX0_headOf 3 = .ok (.iload_n 1, 1) := by decide +kernel
theorem dX0_headOf_4 : decode cX0_headOf 4 = .ok (.ifCond .lt 19, 3) := by decide +kernel
theorem dX0_headOf_7 : decode cX0_headOf 7 = .ok (.iload_n 0, 1) := by decide +kernel
theorem dX0_headOf_8 : decode cX0_headOf 8 = .ok (.iload_n 1, 1) := by decide +kernel
theorem dX0_headOf_9 : decode cX0_headOf 9 = .ok (.invokestatic 28, 3) := by decide +kernel
theorem dX0_headOf_12 : decode cX0_headOf 12 = .ok (.ifCond .eq 5, 3) := by decide +kernel
theorem dX0_headOf_15 : decode cX0_headOf 15 = .ok (.iload_n 1, 1) := by decide +kernel
theorem dX0_headOf_16 : decode cX0_headOf 16 = .ok (.ireturn, 1) := by decide +kernel
theorem dX0_headOf_17 : decode cX0_headOf 17 = .ok (.iinc 1 (-1), 3) := by decide +kernel
theorem dX0_headOf_20 : decode cX0_headOf 20 = .ok (.goto (-17), 3) := by decide +kernel
theorem dX0_headOf_23 : decode cX0_headOf 23 = .ok (.iconst (-1), 1) := by decide +kernel
theorem dX0_headOf_24 : decode cX0_headOf 24 = .ok (.ireturn, 1) := by decide +kernel
theorem dX0_has_0 : decode cX0_has 0 = .ok (.iload_n 0, 1) := by decide +kernel
theorem dX0_has_1 : decode cX0_has 1 = .ok (.iload_n 1, 1) := by decide +kernel
theorem dX0_has_2 : decode cX0_has 2 = .ok (.iushr, 1) := by decide +kernel
theorem dX0_has_3 : decode cX0_has 3 = .ok (.iconst 1, 1) := by decide +kernel
theorem dX0_has_4 : decode cX0_has 4 = .ok (.iand, 1) := by decide +kernel
theorem dX0_has_5 : decode cX0_has 5 = .ok (.ifCond .eq 7, 3) := by decide +kernel
theorem dX0_has_8 : decode cX0_has 8 = .ok (.iconst 1, 1) := by decide +kernel
theorem dX0_has_9 : decode cX0_has 9 = .ok (.goto 4, 3) := by decide +kernel
theorem dX0_has_12 : decode cX0_has 12 = .ok (.iconst 0, 1) := by decide +kernel
theorem dX0_has_13 : decode cX0_has 13 = .ok (.ireturn, 1) := by decide +kernel
theorem dX1_init_0 : decode cX1_init 0 = .ok (.aload_n 0, 1) := by decide +kernel
theorem dX1_init_1 : decode cX1_init 1 = .ok (.invokespecial 1, 3) := by decide +kernel
theorem dX1_init_4 : decode cX1_init 4 = .ok (.aload_n 0, 1) := by decide +kernel
theorem dX1_init_5 : decode cX1_init 5 = .ok (.iconst 1, 1) := by decide +kernel
theorem dX1_init_6 : decode cX1_init 6 = .ok (.putfield 7, 3) := by decide +kernel
theorem dX1_init_9 : decode cX1_init 9 = .ok (.return_, 1) := by decide +kernel
theorem dX1_below_0 : decode cX1_below 0 = .ok (.aload_n 0, 1) := by decide +kernel
theorem dX1_below_1 : decode cX1_below 1 = .ok (.aload_n 0, 1) := by decide +kernel
theorem dX1_below_2 : decode cX1_below 2 = .ok (.getfield 7, 3) := by decide +kernel
theorem dX1_below_5 : decode cX1_below 5 = .ok (.ldc 13, 2) := by decide +kernel
theorem dX1_below_7 : decode cX1_below 7 = .ok (.imul, 1) := by decide +kernel
theorem dX1_below_8 : decode cX1_below 8 = .ok (.sipush 12345, 3) := by decide +kernel
theorem dX1_below_11 : decode cX1_below 11 = .ok (.iadd, 1) := by decide +kernel
theorem dX1_below_12 : decode cX1_below 12 = .ok (.putfield 7, 3) := by decide +kernel
theorem dX1_below_15 : decode cX1_below 15 = .ok (.iload_n 1, 1) := by decide +kernel
theorem dX1_below_16 : decode cX1_below 16 = .ok (.iconst 1, 1) := by decide +kernel
theorem dX1_below_17 : decode cX1_below 17 = .ok (.if_icmp .ge 7, 3) := by decide +kernel
theorem dX1_below_20 : decode cX1_below 20 = .ok (.iconst 0, 1) := by decide +kernel
theorem dX1_below_21 : decode cX1_below 21 = .ok (.goto 12, 3) := by decide +kernel
theorem dX1_below_24 : decode cX1_below 24 = .ok (.aload_n 0, 1) := by decide +kernel
theorem dX1_below_25 : decode cX1_below 25 = .ok (.getfield 7, 3) := by decide +kernel
theorem dX1_below_28 : decode cX1_below 28 = .ok (.bipush 16, 2) := by decide +kernel
theorem dX1_below_30 : decode cX1_below 30 = .ok (.iushr, 1) := by decide +kernel
theorem dX1_below_31 : decode cX1_below 31 = .ok (.iload_n 1, 1) := by decide +kernel
theorem dX1_below_32 : decode cX1_below 32 = .ok (.irem, 1) := by decide +kernel
theorem dX1_below_33 : decode cX1_below 33 = .ok (.ireturn, 1) := by decide +kernel
theorem dX2_init_0 : decode cX2_init 0 = .ok (.aload_n 0, 1) := by decide +kernel
theorem dX2_init_1 : decode cX2_init 1 = .ok (.invokespecial 1, 3) := by decide +kernel
theorem dX2_init_4 : decode cX2_init 4 = .ok (.return_, 1) := by decide +kernel
set_option maxRecDepth 20000 in
theorem ggX2_begin_X1_below : GoodIn wsX2_begin wsX1_below := goodIn_r _ [9, 10, 11, 16] (by decide +kernel) (by decide +kernel)
set_option maxRecDepth 20000 in
theorem gX2_begin_X1_below : GoodIn wsX2_begin (wsV RX2 19 RX1 yX1_below wsX1_below) := goodIn_app (goodIn_of _ (by decide +kernel)) ggX2_begin_X1_below
theorem dX2_begin_0 : decode cX2_begin 0 = .ok (.aload_n 0, 1) := by decide +kernel
theorem dX2_begin_1 : decode cX2_begin 1 = .ok (.iload_n 1, 1) := by decide +kernel
theorem dX2_begin_2 : decode cX2_begin 2 = .ok (.putfield 7, 3) := by decide +kernel
theorem dX2_begin_5 : decode cX2_begin 5 = .ok (.aload_n 0, 1) := by decide +kernel
theorem dX2_begin_6 : decode cX2_begin 6 = .ok (.iload_n 2, 1) := by decide +kernel
theorem dX2_begin_7 : decode cX2_begin 7 = .ok (.putfield 13, 3) := by decide +kernel
theorem dX2_begin_10 : decode cX2_begin 10 = .ok (.aload_n 0, 1) := by decide +kernel
theorem dX2_begin_11 : decode cX2_begin 11 = .ok (.iconst 0, 1) := by decide +kernel
theorem dX2_begin_12 : decode cX2_begin 12 = .ok (.putfield 16, 3) := by decide +kernel
theorem dX2_begin_15 : decode cX2_begin 15 = .ok (.aload_n 0, 1) := by decide +kernel
theorem dX2_begin_16 : decode cX2_begin 16 = .ok (.iload_n 2, 1) := by decide +kernel
theorem dX2_begin_17 : decode cX2_begin 17 = .ok (.iload_n 1, 1) := by decide +kernel
theorem dX2_begin_18 : decode cX2_begin 18 = .ok (.iconst 2, 1) := by decide +kernel
theorem dX2_begin_19 : decode cX2_begin 19 = .ok (.idiv, 1) := by decide +kernel
theorem dX2_begin_20 : decode cX2_begin 20 = .ok (.iadd, 1) := by decide +kernel
theorem dX2_begin_21 : decode cX2_begin 21 = .ok (.aload_n 3, 1) := by decide +kernel
theorem dX2_begin_22 : decode cX2_begin 22 = .ok (.iload_n 1, 1) := by decide +kernel
theorem dX2_begin_23 : decode cX2_begin 23 = .ok (.iload_n 1, 1) := by decide +kernel
theorem dX2_begin_24 : decode cX2_begin 24 = .ok (.iconst 2, 1) := by decide +kernel
theorem dX2_begin_25 : decode cX2_begin 25 = .ok (.idiv, 1) := by decide +kernel
theorem dX2_begin_26 : decode cX2_begin 26 = .ok (.isub, 1) := by decide +kernel
theorem dX2_begin_27 : decode cX2_begin 27 = .ok (.invokevirtual 19, 3) := by decide +kernel
theorem dX2_begin_30 : decode cX2_begin 30 = .ok (.iadd, 1) := by decide +kernel
theorem dX2_begin_31 : decode cX2_begin 31 = .ok (.putfield 25, 3) := by decide +kernel
theorem dX2_begin_34 : decode cX2_begin 34 = .ok (.return_, 1) := by decide +kernel
theorem dX3_init_0 : decode cX3_init 0 = .ok (.aload_n 0, 1) := by decide +kernel
theorem dX3_init_1 : decode cX3_init 1 = .ok (.invokespecial 1, 3) := by decide +kernel
theorem dX3_init_4 : decode cX3_init 4 = .ok (.return_, 1) := by decide +kernel
theorem dX3_isSent_0 : decode cX3_isSent 0 = .ok (.aload_n 0, 1) := by decide +kernel
theorem dX3_isSent_1 : decode cX3_isSent 1 = .ok (.getfield 7, 3) := by decide +kernel
theorem dX3_isSent_4 : decode cX3_isSent 4 = .ok (.ifCond .eq 7, 3) := by decide +kernel
theorem dX3_isSent_7 : decode cX3_isSent 7 = .ok (.iconst 1, 1) := by decide +kernel
theorem dX3_isSent_8 : decode cX3_isSent 8 = .ok (.goto 4, 3) := by decide +kernel
theorem dX3_isSent_11 : decode cX3_isSent 11 = .ok (.iconst 0, 1) := by decide +kernel
theorem dX3_isSent_12 : decode cX3_isSent 12 = .ok (.ireturn, 1) := by decide +kernel
set_option maxRecDepth 20000 in
theorem ggX4_init_X0_init : GoodIn wsX4_init wsX0_init := goodIn_r _ [20, 21, 2, 3, 22, 23, 24, 31, 32, 33] (by decide +kernel) (by decide +kernel)
set_option maxRecDepth 20000 in
theorem gX4_init_X0_init_n11 : GoodIn wsX4_init (wsX0_init) := ggX4_init_X0_init
set_option maxRecDepth 20000 in
theorem ggX4_init_X2_init : GoodIn wsX4_init wsX2_init := goodIn_r _ [26, 27, 2, 3] (by decide +kernel) (by decide +kernel)
set_option maxRecDepth 20000 in
theorem gX4_init_X2_init_n20 : GoodIn wsX4_init (wsX2_init) := ggX4_init_X2_init
set_option maxRecDepth 20000 in
theorem ggX4_init_X3_init : GoodIn wsX4_init wsX3_init := goodIn_r _ [29, 30, 2, 3] (by decide +kernel) (by decide +kernel)
set_option maxRecDepth 20000 in
theorem gX4_init_X3_init_n27 : GoodIn wsX4_init (wsX3_init) := ggX4_init_X3_init
theorem dX4_init_0 : decode cX4_init 0 = .ok (.aload_n 0, 1) := by decide +kernel
theorem dX4_init_1 : decode cX4_init 1 = .ok (.invokespecial 3, 3) := by decide +kernel
theorem dX4_init_4 : decode cX4_init 4 = .ok (.aload_n 0, 1) := by decide +kernel
theorem dX4_init_5 : decode cX4_init 5 = .ok (.new 9, 3) := by decide +kernel
theorem dX4_init_8 : decode cX4_init 8 = .ok (.dup, 1) := by decide +kernel
theorem dX4_init_9 : decode cX4_init 9 = .ok (.invokespecial 11, 3) := by decide +kernel
theorem dX4_init_12 : decode cX4_init 12 = .ok (.putfield 12, 3) := by decide +kernel
theorem dX4_init_15 : decode cX4_init 15 = .ok (.aload_n 0, 1) := by decide +kernel
theorem dX4_init_16 : decode cX4_init 16 = .ok (.new 18, 3) := by decide +kernel
theorem dX4_init_19 : decode cX4_init 19 = .ok (.dup, 1) := by decide +kernel
theorem dX4_init_20 : decode cX4_init 20 = .ok (.invokespecial 20, 3) := by decide +kernel
theorem dX4_init_23 : decode cX4_init 23 = .ok (.putfield 21, 3) := by decide +kernel
theorem dX4_init_26 : decode cX4_init 26 = .ok (.aload_n 0, 1) := by decide +kernel
theorem dX4_init_27 : decode cX4_init 27 = .ok (.new 25, 3) := by decide +kernel
theorem dX4_init_30 : decode cX4_init 30 = .ok (.dup, 1) := by decide +kernel
theorem dX4_init_31 : decode cX4_init 31 = .ok (.invokespecial 27, 3) := by decide +kernel
theorem dX4_init_34 : decode cX4_init 34 = .ok (.putfield 28, 3) := by decide +kernel
theorem dX4_init_37 : decode cX4_init 37 = .ok (.aload_n 0, 1) := by decide +kernel
theorem dX4_init_38 : decode cX4_init 38 = .ok (.iconst (-1), 1) := by decide +kernel
theorem dX4_init_39 : decode cX4_init 39 = .ok (.putfield 32, 3) := by decide +kernel
theorem dX4_init_42 : decode cX4_init 42 = .ok (.aload_n 0, 1) := by decide +kernel
theorem dX4_init_43 : decode cX4_init 43 = .ok (.aload_n 1, 1) := by decide +kernel
theorem dX4_init_44 : decode cX4_init 44 = .ok (.putfield 36, 3) := by decide +kernel
theorem dX4_init_47 : decode cX4_init 47 = .ok (.aload_n 0, 1) := by decide +kernel
theorem dX4_init_48 : decode cX4_init 48 = .ok (.aload_n 2, 1) := by decide +kernel
theorem dX4_init_49 : decode cX4_init 49 = .ok (.putfield 40, 3) := by decide +kernel
theorem dX4_init_52 : decode cX4_init 52 = .ok (.return_, 1) := by decide +kernel
set_option maxRecDepth 20000 in
theorem ggX4_keepWhole_X4_keep : GoodIn wsX4_keepWhole wsX4_keep := goodIn_r _ [7, 8, 9, 2, 1, 10, 11, 12, 13, 14, 15, 16, 17, 18, 19, 20, 21, 36, 37, 38, 39, 40, 41, 42, 43, 44, 45, 46, 47, 48, 49, 50, 51, 52, 53, 54, 55, 56] (by decide +kernel) (by decide +kernel)
set_option maxRecDepth 20000 in
theorem gX4_keepWhole_X4_keep : GoodIn wsX4_keepWhole (wsV RX4 44 RX4 yX4_keep wsX4_keep) := goodIn_app (goodIn_of _ (by decide +kernel)) ggX4_keepWhole_X4_keep
set_option maxRecDepth 20000 in
theorem ggX4_keepWhole_X0_takeIn : GoodIn wsX4_keepWhole wsX0_takeIn := goodIn_r _ [25, 15, 16, 17, 26, 27, 13, 28, 29, 30, 31, 54, 55, 56] (by decide +kernel) (by decide +kernel)
set_option maxRecDepth 20000 in
theorem gX4_keepWhole_X0_takeIn : GoodIn wsX4_keepWhole (wsV RX4 48 RX0 yX0_takeIn wsX0_takeIn) := goodIn_app (goodIn_of _ (by decide +kernel)) ggX4_keepWhole_X0_takeIn
set_option maxRecDepth 20000 in
theorem ggX4_keepWhole_X0_sumOfPieces : GoodIn wsX4_keepWhole wsX0_sumOfPieces := goodIn_r _ [35, 16, 54, 55, 56] (by decide +kernel) (by decide +kernel)
set_option maxRecDepth 20000 in
theorem gX4_keepWhole_X0_sumOfPieces : GoodIn wsX4_keepWhole (wsV RX4 52 RX0 yX0_sumOfPieces wsX0_sumOfPieces) := goodIn_app (goodIn_of _ (by decide +kernel)) ggX4_keepWhole_X0_sumOfPieces
theorem dX4_keepWhole_0 : decode cX4_keepWhole 0 = .ok (.aload_n 0, 1) := by decide +kernel
theorem dX4_keepWhole_1 : decode cX4_keepWhole 1 = .ok (.iload_n 1, 1) := by decide +kernel
theorem dX4_keepWhole_2 : decode cX4_keepWhole 2 = .ok (.iload_n 3, 1) := by decide +kernel
theorem dX4_keepWhole_3 : decode cX4_keepWhole 3 = .ok (.iconst 0, 1) := by decide +kernel
theorem dX4_keepWhole_4 : decode cX4_keepWhole 4 = .ok (.invokevirtual 44, 3) := by decide +kernel
theorem dX4_keepWhole_7 : decode cX4_keepWhole 7 = .ok (.iconst 0, 1) := by decide +kernel
theorem dX4_keepWhole_8 : decode cX4_keepWhole 8 = .ok (.istore 4, 2) := by decide +kernel
theorem dX4_keepWhole_10 : decode cX4_keepWhole 10 = .ok (.iload 4, 2) := by decide +kernel
theorem dX4_keepWhole_12 : decode cX4_keepWhole 12 = .ok (.iload_n 3, 1) := by decide +kernel
theorem dX4_keepWhole_13 : decode cX4_keepWhole 13 = .ok (.if_icmp .ge 32, 3) := by decide +kernel
theorem dX4_keepWhole_16 : decode cX4_keepWhole 16 = .ok (.iload 4, 2) := by decide +kernel
theorem dX4_keepWhole_18 : decode cX4_keepWhole 18 = .ok (.aload_n 2, 1) := by decide +kernel
theorem dX4_keepWhole_19 : decode cX4_keepWhole 19 = .ok (.arraylength, 1) := by decide +kernel
theorem dX4_keepWhole_20 : decode cX4_keepWhole 20 = .ok (.if_icmp .ge 25, 3) := by decide +kernel
theorem dX4_keepWhole_23 : decode cX4_keepWhole 23 = .ok (.aload_n 0, 1) := by decide +kernel
theorem dX4_keepWhole_24 : decode cX4_keepWhole 24 = .ok (.getfield 12, 3) := by decide +kernel
theorem dX4_keepWhole_27 : decode cX4_keepWhole 27 = .ok (.iconst 1, 1) := by decide +kernel
theorem dX4_keepWhole_28 : decode cX4_keepWhole 28 = .ok (.iload 4, 2) := by decide +kernel
theorem dX4_keepWhole_30 : decode cX4_keepWhole 30 = .ok (.ishl, 1) := by decide +kernel
theorem dX4_keepWhole_31 : decode cX4_keepWhole 31 = .ok (.aload_n 2, 1) := by decide +kernel
theorem dX4_keepWhole_32 : decode cX4_keepWhole 32 = .ok (.iload 4, 2) := by decide +kernel
theorem dX4_keepWhole_34 : decode cX4_keepWhole 34 = .ok (.iaload, 1) := by decide +kernel
theorem dX4_keepWhole_35 : decode cX4_keepWhole 35 = .ok (.invokevirtual 48, 3) := by decide +kernel
theorem dX4_keepWhole_38 : decode cX4_keepWhole 38 = .ok (.pop, 1) := by decide +kernel
theorem dX4_keepWhole_39 : decode cX4_keepWhole 39 = .ok (.iinc 4 1, 3) := by decide +kernel
theorem dX4_keepWhole_42 : decode cX4_keepWhole 42 = .ok (.goto (-32), 3) := by decide +kernel
theorem dX4_keepWhole_45 : decode cX4_keepWhole 45 = .ok (.aload_n 0, 1) := by decide +kernel
theorem dX4_keepWhole_46 : decode cX4_keepWhole 46 = .ok (.aload_n 0, 1) := by decide +kernel
theorem dX4_keepWhole_47 : decode cX4_keepWhole 47 = .ok (.getfield 12, 3) := by decide +kernel
theorem dX4_keepWhole_50 : decode cX4_keepWhole 50 = .ok (.invokevirtual 52, 3) := by decide +kernel
theorem dX4_keepWhole_53 : decode cX4_keepWhole 53 = .ok (.putfield 56, 3) := by decide +kernel
theorem dX4_keepWhole_56 : decode cX4_keepWhole 56 = .ok (.return_, 1) := by decide +kernel
set_option maxRecDepth 20000 in
theorem ggX4_keep_X0_empty : GoodIn wsX4_keep wsX0_empty := goodIn_r _ [9, 10, 11, 12, 13, 14, 15, 16, 35, 36, 37] (by decide +kernel) (by decide +kernel)
set_option maxRecDepth 20000 in
theorem gX4_keep_X0_empty : GoodIn wsX4_keep (wsV RX4 65 RX0 yX0_empty wsX0_empty) := goodIn_app (goodIn_of _ (by decide +kernel)) ggX4_keep_X0_empty
theorem dX4_keep_0 : decode cX4_keep 0 = .ok (.aload_n 0, 1) := by decide +kernel
theorem dX4_keep_1 : decode cX4_keep 1 = .ok (.iload_n 1, 1) := by decide +kernel
theorem dX4_keep_2 : decode cX4_keep 2 = .ok (.putfield 59, 3) := by decide +kernel
theorem dX4_keep_5 : decode cX4_keep 5 = .ok (.aload_n 0, 1) := by decide +kernel
theorem dX4_keep_6 : decode cX4_keep 6 = .ok (.iload_n 2, 1) := by decide +kernel
theorem dX4_keep_7 : decode cX4_keep 7 = .ok (.putfield 62, 3) := by decide +kernel
theorem dX4_keep_10 : decode cX4_keep 10 = .ok (.aload_n 0, 1) := by decide +kernel
theorem dX4_keep_11 : decode cX4_keep 11 = .ok (.iload_n 3, 1) := by decide +kernel
theorem dX4_keep_12 : decode cX4_keep 12 = .ok (.putfield 56, 3) := by decide +kernel
theorem dX4_keep_15 : decode cX4_keep 15 = .ok (.aload_n 0, 1) := by decide +kernel
theorem dX4_keep_16 : decode cX4_keep 16 = .ok (.getfield 12, 3) := by decide +kernel
theorem dX4_keep_19 : decode cX4_keep 19 = .ok (.invokevirtual 65, 3) := by decide +kernel
theorem dX4_keep_22 : decode cX4_keep 22 = .ok (.return_, 1) := by decide +kernel
theorem dX4_isWhole_0 : decode cX4_isWhole 0 = .ok (.aload_n 0, 1) := by decide +kernel
theorem dX4_isWhole_1 : decode cX4_isWhole 1 = .ok (.getfield 59, 3) := by decide +kernel
theorem dX4_isWhole_4 : decode cX4_isWhole 4 = .ok (.ifCond .eq 21, 3) := by decide +kernel
theorem dX4_isWhole_7 : decode cX4_isWhole 7 = .ok (.aload_n 0, 1) := by decide +kernel
theorem dX4_isWhole_8 : decode cX4_isWhole 8 = .ok (.getfield 12, 3) := by decide +kernel
theorem dX4_isWhole_11 : decode cX4_isWhole 11 = .ok (.getfield 68, 3) := by decide +kernel
theorem dX4_isWhole_14 : decode cX4_isWhole 14 = .ok (.aload_n 0, 1) := by decide +kernel
theorem dX4_isWhole_15 : decode cX4_isWhole 15 = .ok (.getfield 62, 3) := by decide +kernel
theorem dX4_isWhole_18 : decode cX4_isWhole 18 = .ok (.if_icmp .ne 7, 3) := by decide +kernel
theorem dX4_isWhole_21 : decode cX4_isWhole 21 = .ok (.iconst 1, 1) := by decide +kernel
theorem dX4_isWhole_22 : decode cX4_isWhole 22 = .ok (.goto 4, 3) := by decide +kernel
theorem dX4_isWhole_25 : decode cX4_isWhole 25 = .ok (.iconst 0, 1) := by decide +kernel
theorem dX4_isWhole_26 : decode cX4_isWhole 26 = .ok (.ireturn, 1) := by decide +kernel
set_option maxRecDepth 20000 in
theorem ggX4_isWholeOf_X4_isWhole : GoodIn wsX4_isWholeOf wsX4_isWhole := goodIn_r _ [6, 1, 7, 8, 9, 10, 11, 12, 13, 14, 15, 16, 17, 18, 19, 20, 21, 22, 23, 24, 25, 26, 27, 28, 29] (by decide +kernel) (by decide +kernel)
set_option maxRecDepth 20000 in
theorem gX4_isWholeOf_X4_isWhole : GoodIn wsX4_isWholeOf (wsV RX4 71 RX4 yX4_isWhole wsX4_isWhole) := goodIn_app (goodIn_of _ (by decide +kernel)) ggX4_isWholeOf_X4_isWhole
theorem dX4_isWholeOf_0 : decode cX4_isWholeOf 0 = .ok (.aload_n 0, 1) := by decide +kernel
theorem dX4_isWholeOf_1 : decode cX4_isWholeOf 1 = .ok (.getfield 59, 3) := by decide +kernel
theorem dX4_isWholeOf_4 : decode cX4_isWholeOf 4 = .ok (.iload_n 1, 1) := by decide +kernel
theorem dX4_isWholeOf_5 : decode cX4_isWholeOf 5 = .ok (.if_icmp .ne 14, 3) := by decide +kernel
theorem dX4_isWholeOf_8 : decode cX4_isWholeOf 8 = .ok (.aload_n 0, 1) := by decide +kernel
theorem dX4_isWholeOf_9 : decode cX4_isWholeOf 9 = .ok (.invokevirtual 71, 3) := by decide +kernel
theorem dX4_isWholeOf_12 : decode cX4_isWholeOf 12 = .ok (.ifCond .eq 7, 3) := by decide +kernel
theorem dX4_isWholeOf_15 : decode cX4_isWholeOf 15 = .ok (.iconst 1, 1) := by decide +kernel
theorem dX4_isWholeOf_16 : decode cX4_isWholeOf 16 = .ok (.goto 4, 3) := by decide +kernel
theorem dX4_isWholeOf_19 : decode cX4_isWholeOf 19 = .ok (.iconst 0, 1) := by decide +kernel
theorem dX4_isWholeOf_20 : decode cX4_isWholeOf 20 = .ok (.ireturn, 1) := by decide +kernel
set_option maxRecDepth 20000 in
theorem ggX4_stir_X2_begin : GoodIn wsX4_stir wsX2_begin := goodIn_r _ [8, 9, 10, 11, 12, 13, 14, 15, 16, 17, 18, 19, 38, 39, 40, 41, 46] (by decide +kernel) (by decide +kernel)
set_option maxRecDepth 20000 in
theorem gX4_stir_X2_begin : GoodIn wsX4_stir (wsV RX4 83 RX2 yX2_begin wsX2_begin) := goodIn_app (goodIn_of _ (by decide +kernel)) ggX4_stir_X2_begin
theorem dX4_stir_0 : decode cX4_stir 0 = .ok (.aload_n 0, 1) := by decide +kernel
theorem dX4_stir_1 : decode cX4_stir 1 = .ok (.getfield 21, 3) := by decide +kernel
theorem dX4_stir_4 : decode cX4_stir 4 = .ok (.getfield 75, 3) := by decide +kernel
theorem dX4_stir_7 : decode cX4_stir 7 = .ok (.aload_n 0, 1) := by decide +kernel
theorem dX4_stir_8 : decode cX4_stir 8 = .ok (.getfield 36, 3) := by decide +kernel
theorem dX4_stir_11 : decode cX4_stir 11 = .ok (.getfield 78, 3) := by decide +kernel
theorem dX4_stir_14 : decode cX4_stir 14 = .ok (.if_icmp .le 24, 3) := by decide +kernel
theorem dX4_stir_17 : decode cX4_stir 17 = .ok (.aload_n 0, 1) := by decide +kernel
theorem dX4_stir_18 : decode cX4_stir 18 = .ok (.getfield 21, 3) := by decide +kernel
theorem dX4_stir_21 : decode cX4_stir 21 = .ok (.aload_n 0, 1) := by decide +kernel
theorem dX4_stir_22 : decode cX4_stir 22 = .ok (.getfield 36, 3) := by decide +kernel
theorem dX4_stir_25 : decode cX4_stir 25 = .ok (.getfield 78, 3) := by decide +kernel
theorem dX4_stir_28 : decode cX4_stir 28 = .ok (.iload_n 1, 1) := by decide +kernel
theorem dX4_stir_29 : decode cX4_stir 29 = .ok (.iconst 1, 1) := by decide +kernel
theorem dX4_stir_30 : decode cX4_stir 30 = .ok (.iadd, 1) := by decide +kernel
theorem dX4_stir_31 : decode cX4_stir 31 = .ok (.aload_n 0, 1) := by decide +kernel
theorem dX4_stir_32 : decode cX4_stir 32 = .ok (.getfield 40, 3) := by decide +kernel
theorem dX4_stir_35 : decode cX4_stir 35 = .ok (.invokevirtual 83, 3) := by decide +kernel
theorem dX4_stir_38 : decode cX4_stir 38 = .ok (.return_, 1) := by decide +kernel
theorem dX4_takeTurn_0 : decode cX4_takeTurn 0 = .ok (.iload_n 1, 1) := by decide +kernel
theorem dX4_takeTurn_1 : decode cX4_takeTurn 1 = .ok (.aload_n 0, 1) := by decide +kernel
theorem dX4_takeTurn_2 : decode cX4_takeTurn 2 = .ok (.getfield 87, 3) := by decide +kernel
theorem dX4_takeTurn_5 : decode cX4_takeTurn 5 = .ok (.if_icmp .gt 5, 3) := by decide +kernel
theorem dX4_takeTurn_8 : decode cX4_takeTurn 8 = .ok (.iconst 0, 1) := by decide +kernel
theorem dX4_takeTurn_9 : decode cX4_takeTurn 9 = .ok (.ireturn, 1) := by decide +kernel
theorem dX4_takeTurn_10 : decode cX4_takeTurn 10 = .ok (.aload_n 0, 1) := by decide +kernel
theorem dX4_takeTurn_11 : decode cX4_takeTurn 11 = .ok (.iload_n 1, 1) := by decide +kernel
theorem dX4_takeTurn_12 : decode cX4_takeTurn 12 = .ok (.putfield 87, 3) := by decide +kernel
theorem dX4_takeTurn_15 : decode cX4_takeTurn 15 = .ok (.aload_n 0, 1) := by decide +kernel
theorem dX4_takeTurn_16 : decode cX4_takeTurn 16 = .ok (.iload_n 2, 1) := by decide +kernel
theorem dX4_takeTurn_17 : decode cX4_takeTurn 17 = .ok (.putfield 90, 3) := by decide +kernel
theorem dX4_takeTurn_20 : decode cX4_takeTurn 20 = .ok (.iconst 1, 1) := by decide +kernel
theorem dX4_takeTurn_21 : decode cX4_takeTurn 21 = .ok (.ireturn, 1) := by decide +kernel
set_option maxRecDepth 20000 in
theorem ggX4_losePower_X0_tearLeast : GoodIn wsX4_losePower wsX0_tearLeast := goodIn_r _ [12, 13, 14, 15, 54, 55, 56] (by decide +kernel) (by decide +kernel)
set_option maxRecDepth 20000 in
theorem gX4_losePower_X0_tearLeast : GoodIn wsX4_losePower (wsV RX4 93 RX0 yX0_tearLeast wsX0_tearLeast) := goodIn_app (goodIn_of _ (by decide +kernel)) ggX4_losePower_X0_tearLeast
set_option maxRecDepth 20000 in
theorem ggX4_losePower_X2_begin : GoodIn wsX4_losePower wsX2_begin := goodIn_r _ [20, 21, 22, 23, 24, 25, 26, 27, 28, 29, 30, 31, 57, 58, 59, 60, 61] (by decide +kernel) (by decide +kernel)
set_option maxRecDepth 20000 in
theorem gX4_losePower_X2_begin : GoodIn wsX4_losePower (wsV RX4 83 RX2 yX2_begin wsX2_begin) := goodIn_app (goodIn_of _ (by decide +kernel)) ggX4_losePower_X2_begin
theorem dX4_losePower_0 : decode cX4_losePower 0 = .ok (.iload_n 1, 1) := by decide +kernel
theorem dX4_losePower_1 : decode cX4_losePower 1 = .ok (.ifCond .eq 10, 3) := by decide +kernel
theorem dX4_losePower_4 : decode cX4_losePower 4 = .ok (.aload_n 0, 1) := by decide +kernel
theorem dX4_losePower_5 : decode cX4_losePower 5 = .ok (.getfield 12, 3) := by decide +kernel
theorem dX4_losePower_8 : decode cX4_losePower 8 = .ok (.invokevirtual 93, 3) := by decide +kernel
theorem dX4_losePower_11 : decode cX4_losePower 11 = .ok (.aload_n 0, 1) := by decide +kernel
theorem dX4_losePower_12 : decode cX4_losePower 12 = .ok (.getfield 21, 3) := by decide +kernel
theorem dX4_losePower_15 : decode cX4_losePower 15 = .ok (.aload_n 0, 1) := by decide +kernel
theorem dX4_losePower_16 : decode cX4_losePower 16 = .ok (.getfield 36, 3) := by decide +kernel
theorem dX4_losePower_19 : decode cX4_losePower 19 = .ok (.getfield 78, 3) := by decide +kernel
theorem dX4_losePower_22 : decode cX4_losePower 22 = .ok (.iload_n 2, 1) := by decide +kernel
theorem dX4_losePower_23 : decode cX4_losePower 23 = .ok (.aload_n 0, 1) := by decide +kernel
theorem dX4_losePower_24 : decode cX4_losePower 24 = .ok (.getfield 40, 3) := by decide +kernel
theorem dX4_losePower_27 : decode cX4_losePower 27 = .ok (.invokevirtual 83, 3) := by decide +kernel
theorem dX4_losePower_30 : decode cX4_losePower 30 = .ok (.aload_n 0, 1) := by decide +kernel
theorem dX4_losePower_31 : decode cX4_losePower 31 = .ok (.iconst (-1), 1) := by decide +kernel
theorem dX4_losePower_32 : decode cX4_losePower 32 = .ok (.putfield 32, 3) := by decide +kernel
theorem dX4_losePower_35 : decode cX4_losePower 35 = .ok (.aload_n 0, 1) := by decide +kernel
theorem dX4_losePower_36 : decode cX4_losePower 36 = .ok (.iconst 0, 1) := by decide +kernel
theorem dX4_losePower_37 : decode cX4_losePower 37 = .ok (.putfield 87, 3) := by decide +kernel
theorem dX4_losePower_40 : decode cX4_losePower 40 = .ok (.aload_n 0, 1) := by decide +kernel
theorem dX4_losePower_41 : decode cX4_losePower 41 = .ok (.iconst 0, 1) := by decide +kernel
theorem dX4_losePower_42 : decode cX4_losePower 42 = .ok (.putfield 90, 3) := by decide +kernel
theorem dX4_losePower_45 : decode cX4_losePower 45 = .ok (.return_, 1) := by decide +kernel
set_option maxRecDepth 20000 in
theorem ggX4_send_X1_below : GoodIn wsX4_send wsX1_below := goodIn_r _ [13, 14, 15, 86] (by decide +kernel) (by decide +kernel)
set_option maxRecDepth 20000 in
theorem gX4_send_X1_below : GoodIn wsX4_send (wsV RX4 96 RX1 yX1_below wsX1_below) := goodIn_app (goodIn_of _ (by decide +kernel)) ggX4_send_X1_below
set_option maxRecDepth 20000 in
theorem ggX4_send_X0_mixInto : GoodIn wsX4_send wsX0_mixInto := goodIn_r _ [20, 21, 22, 23, 24, 19, 25, 26, 27, 28, 29, 30, 31, 32, 33, 34, 35, 36, 37, 77, 78, 79, 80, 81, 82, 83, 84, 85, 66, 67, 68] (by decide +kernel) (by decide +kernel)
set_option maxRecDepth 20000 in
theorem gX4_send_X0_mixInto : GoodIn wsX4_send (wsV RX4 102 RX0 yX0_mixInto wsX0_mixInto) := goodIn_app (goodIn_of _ (by decide +kernel)) ggX4_send_X0_mixInto
set_option maxRecDepth 20000 in
theorem ggX4_send_X4_address : GoodIn wsX4_send wsX4_address := goodIn_r _ [42, 3, 43, 2, 44, 45, 46, 47, 48, 49, 50, 51, 52, 53, 54, 55, 56, 57, 58, 59, 60, 61, 62, 63, 64, 65, 77, 78, 79, 80, 81, 82, 83, 84, 85, 66, 67, 68] (by decide +kernel) (by decide +kernel)
set_option maxRecDepth 20000 in
theorem gX4_send_X4_address : GoodIn wsX4_send (wsV RX4 106 RX4 yX4_address wsX4_address) := goodIn_app (goodIn_of _ (by decide +kernel)) ggX4_send_X4_address
theorem dX4_send_0 : decode cX4_send 0 = .ok (.aload_n 0, 1) := by decide +kernel
theorem dX4_send_1 : decode cX4_send 1 = .ok (.getfield 32, 3) := by decide +kernel
theorem dX4_send_4 : decode cX4_send 4 = .ok (.iload_n 1, 1) := by decide +kernel
theorem dX4_send_5 : decode cX4_send 5 = .ok (.if_icmp .ne 7, 3) := by decide +kernel
theorem dX4_send_8 : decode cX4_send 8 = .ok (.iconst 1, 1) := by decide +kernel
theorem dX4_send_9 : decode cX4_send 9 = .ok (.goto 4, 3) := by decide +kernel
theorem dX4_send_12 : decode cX4_send 12 = .ok (.iconst 0, 1) := by decide +kernel
theorem dX4_send_13 : decode cX4_send 13 = .ok (.istore_n 2, 1) := by decide +kernel
theorem dX4_send_14 : decode cX4_send 14 = .ok (.iload_n 2, 1) := by decide +kernel
theorem dX4_send_15 : decode cX4_send 15 = .ok (.ifCond .eq 8, 3) := by decide +kernel
theorem dX4_send_18 : decode cX4_send 18 = .ok (.aload_n 0, 1) := by decide +kernel
theorem dX4_send_19 : decode cX4_send 19 = .ok (.iconst (-1), 1) := by decide +kernel
theorem dX4_send_20 : decode cX4_send 20 = .ok (.putfield 32, 3) := by decide +kernel
theorem dX4_send_23 : decode cX4_send 23 = .ok (.iload_n 2, 1) := by decide +kernel
theorem dX4_send_24 : decode cX4_send 24 = .ok (.ifCond .eq 52, 3) := by decide +kernel
theorem dX4_send_27 : decode cX4_send 27 = .ok (.aload_n 0, 1) := by decide +kernel
theorem dX4_send_28 : decode cX4_send 28 = .ok (.getfield 12, 3) := by decide +kernel
theorem dX4_send_31 : decode cX4_send 31 = .ok (.getfield 68, 3) := by decide +kernel
theorem dX4_send_34 : decode cX4_send 34 = .ok (.ifCond .le 42, 3) := by decide +kernel
theorem dX4_send_37 : decode cX4_send 37 = .ok (.aload_n 0, 1) := by decide +kernel
theorem dX4_send_38 : decode cX4_send 38 = .ok (.getfield 12, 3) := by decide +kernel
theorem dX4_send_41 : decode cX4_send 41 = .ok (.aload_n 0, 1) := by decide +kernel
theorem dX4_send_42 : decode cX4_send 42 = .ok (.getfield 28, 3) := by decide +kernel
theorem dX4_send_45 : decode cX4_send 45 = .ok (.aload_n 0, 1) := by decide +kernel
theorem dX4_send_46 : decode cX4_send 46 = .ok (.getfield 40, 3) := by decide +kernel
theorem dX4_send_49 : decode cX4_send 49 = .ok (.sipush 4096, 3) := by decide +kernel
theorem dX4_send_52 : decode cX4_send 52 = .ok (.invokevirtual 96, 3) := by decide +kernel
theorem dX4_send_55 : decode cX4_send 55 = .ok (.invokevirtual 102, 3) := by decide +kernel
theorem dX4_send_58 : decode cX4_send 58 = .ok (.aload_n 0, 1) := by decide +kernel
theorem dX4_send_59 : decode cX4_send 59 = .ok (.iconst 2, 1) := by decide +kernel
theorem dX4_send_60 : decode cX4_send 60 = .ok (.invokevirtual 106, 3) := by decide +kernel
theorem dX4_send_63 : decode cX4_send 63 = .ok (.aload_n 0, 1) := by decide +kernel
theorem dX4_send_64 : decode cX4_send 64 = .ok (.dup, 1) := by decide +kernel
theorem dX4_send_65 : decode cX4_send 65 = .ok (.getfield 110, 3) := by decide +kernel
theorem dX4_send_68 : decode cX4_send 68 = .ok (.iconst 1, 1) := by decide +kernel
theorem dX4_send_69 : decode cX4_send 69 = .ok (.iadd, 1) := by decide +kernel
theorem dX4_send_70 : decode cX4_send 70 = .ok (.putfield 110, 3) := by decide +kernel
theorem dX4_send_73 : decode cX4_send 73 = .ok (.goto 57, 3) := by decide +kernel
theorem dX4_send_76 : decode cX4_send 76 = .ok (.aload_n 0, 1) := by decide +kernel
theorem dX4_send_77 : decode cX4_send 77 = .ok (.getfield 21, 3) := by decide +kernel
theorem dX4_send_80 : decode cX4_send 80 = .ok (.getfield 113, 3) := by decide +kernel
theorem dX4_send_83 : decode cX4_send 83 = .ok (.iload_n 1, 1) := by decide +kernel
theorem dX4_send_84 : decode cX4_send 84 = .ok (.if_icmp .ne 38, 3) := by decide +kernel
theorem dX4_send_87 : decode cX4_send 87 = .ok (.aload_n 0, 1) := by decide +kernel
theorem dX4_send_88 : decode cX4_send 88 = .ok (.getfield 21, 3) := by decide +kernel
theorem dX4_send_91 : decode cX4_send 91 = .ok (.getfield 116, 3) := by decide +kernel
theorem dX4_send_94 : decode cX4_send 94 = .ok (.aload_n 0, 1) := by decide +kernel
theorem dX4_send_95 : decode cX4_send 95 = .ok (.getfield 36, 3) := by decide +kernel
theorem dX4_send_98 : decode cX4_send 98 = .ok (.getfield 119, 3) := by decide +kernel
theorem dX4_send_101 : decode cX4_send 101 = .ok (.if_icmp .ge 21, 3) := by decide +kernel
theorem dX4_send_104 : decode cX4_send 104 = .ok (.aload_n 0, 1) := by decide +kernel
theorem dX4_send_105 : decode cX4_send 105 = .ok (.iconst 1, 1) := by decide +kernel
theorem dX4_send_106 : decode cX4_send 106 = .ok (.invokevirtual 106, 3) := by decide +kernel
theorem dX4_send_109 : decode cX4_send 109 = .ok (.aload_n 0, 1) := by decide +kernel
theorem dX4_send_110 : decode cX4_send 110 = .ok (.dup, 1) := by decide +kernel
theorem dX4_send_111 : decode cX4_send 111 = .ok (.getfield 122, 3) := by decide +kernel
theorem dX4_send_114 : decode cX4_send 114 = .ok (.iconst 1, 1) := by decide +kernel
theorem dX4_send_115 : decode cX4_send 115 = .ok (.iadd, 1) := by decide +kernel
theorem dX4_send_116 : decode cX4_send 116 = .ok (.putfield 122, 3) := by decide +kernel
theorem dX4_send_119 : decode cX4_send 119 = .ok (.goto 11, 3) := by decide +kernel
theorem dX4_send_122 : decode cX4_send 122 = .ok (.aload_n 0, 1) := by decide +kernel
theorem dX4_send_123 : decode cX4_send 123 = .ok (.getfield 28, 3) := by decide +kernel
theorem dX4_send_126 : decode cX4_send 126 = .ok (.iconst 0, 1) := by decide +kernel
theorem dX4_send_127 : decode cX4_send 127 = .ok (.putfield 125, 3) := by decide +kernel
theorem dX4_send_130 : decode cX4_send 130 = .ok (.return_, 1) := by decide +kernel
theorem dX4_address_0 : decode cX4_address 0 = .ok (.aload_n 0, 1) := by decide +kernel
theorem dX4_address_1 : decode cX4_address 1 = .ok (.getfield 28, 3) := by decide +kernel
theorem dX4_address_4 : decode cX4_address 4 = .ok (.iload_n 1, 1) := by decide +kernel
theorem dX4_address_5 : decode cX4_address 5 = .ok (.putfield 125, 3) := by decide +kernel
theorem dX4_address_8 : decode cX4_address 8 = .ok (.aload_n 0, 1) := by decide +kernel
theorem dX4_address_9 : decode cX4_address 9 = .ok (.getfield 28, 3) := by decide +kernel
theorem dX4_address_12 : decode cX4_address 12 = .ok (.aload_n 0, 1) := by decide +kernel
theorem dX4_address_13 : decode cX4_address 13 = .ok (.getfield 59, 3) := by decide +kernel
theorem dX4_address_16 : decode cX4_address 16 = .ok (.putfield 128, 3) := by decide +kernel
theorem dX4_address_19 : decode cX4_address 19 = .ok (.aload_n 0, 1) := by decide +kernel
theorem dX4_address_20 : decode cX4_address 20 = .ok (.getfield 28, 3) := by decide +kernel
theorem dX4_address_23 : decode cX4_address 23 = .ok (.aload_n 0, 1) := by decide +kernel
theorem dX4_address_24 : decode cX4_address 24 = .ok (.getfield 12, 3) := by decide +kernel
theorem dX4_address_27 : decode cX4_address 27 = .ok (.getfield 68, 3) := by decide +kernel
theorem dX4_address_30 : decode cX4_address 30 = .ok (.putfield 129, 3) := by decide +kernel
theorem dX4_address_33 : decode cX4_address 33 = .ok (.aload_n 0, 1) := by decide +kernel
theorem dX4_address_34 : decode cX4_address 34 = .ok (.getfield 28, 3) := by decide +kernel
theorem dX4_address_37 : decode cX4_address 37 = .ok (.aload_n 0, 1) := by decide +kernel
theorem dX4_address_38 : decode cX4_address 38 = .ok (.getfield 62, 3) := by decide +kernel
theorem dX4_address_41 : decode cX4_address 41 = .ok (.putfield 130, 3) := by decide +kernel
theorem dX4_address_44 : decode cX4_address 44 = .ok (.aload_n 0, 1) := by decide +kernel
theorem dX4_address_45 : decode cX4_address 45 = .ok (.getfield 28, 3) := by decide +kernel
theorem dX4_address_48 : decode cX4_address 48 = .ok (.aload_n 0, 1) := by decide +kernel
theorem dX4_address_49 : decode cX4_address 49 = .ok (.getfield 56, 3) := by decide +kernel
theorem dX4_address_52 : decode cX4_address 52 = .ok (.putfield 131, 3) := by decide +kernel
theorem dX4_address_55 : decode cX4_address 55 = .ok (.aload_n 0, 1) := by decide +kernel
theorem dX4_address_56 : decode cX4_address 56 = .ok (.getfield 28, 3) := by decide +kernel
theorem dX4_address_59 : decode cX4_address 59 = .ok (.aload_n 0, 1) := by decide +kernel
theorem dX4_address_60 : decode cX4_address 60 = .ok (.getfield 87, 3) := by decide +kernel
theorem dX4_address_63 : decode cX4_address 63 = .ok (.putfield 134, 3) := by decide +kernel
theorem dX4_address_66 : decode cX4_address 66 = .ok (.aload_n 0, 1) := by decide +kernel
theorem dX4_address_67 : decode cX4_address 67 = .ok (.getfield 28, 3) := by decide +kernel
theorem dX4_address_70 : decode cX4_address 70 = .ok (.aload_n 0, 1) := by decide +kernel
theorem dX4_address_71 : decode cX4_address 71 = .ok (.getfield 90, 3) := by decide +kernel
theorem dX4_address_74 : decode cX4_address 74 = .ok (.putfield 135, 3) := by decide +kernel
theorem dX4_address_77 : decode cX4_address 77 = .ok (.return_, 1) := by decide +kernel
set_option maxRecDepth 20000 in
theorem ggX4_take_X4_takeTurn : GoodIn wsX4_take wsX4_takeTurn := goodIn_r _ [5, 6, 7, 89, 90, 91, 92, 93, 94, 95, 96, 97, 98, 99, 100, 101, 102, 103, 104, 105, 106] (by decide +kernel) (by decide +kernel)
set_option maxRecDepth 20000 in
theorem gX4_take_X4_takeTurn : GoodIn wsX4_take (wsV RX4 136 RX4 yX4_takeTurn wsX4_takeTurn) := goodIn_app (goodIn_of _ (by decide +kernel)) ggX4_take_X4_takeTurn
set_option maxRecDepth 20000 in
theorem ggX4_take_X4_takeTell : GoodIn wsX4_take wsX4_takeTell := goodIn_r _ [11, 12, 13, 14, 15, 16, 17, 18, 19, 20, 4, 21, 22, 23, 24, 25, 26, 27, 28, 29, 30, 31, 32, 33, 34, 35, 36, 37, 38, 80, 81, 82, 83, 84, 85, 86, 87, 88, 89, 90, 91, 92, 93, 94, 95, 96, 97, 98, 99, 100, 101, 102, 103, 104, 105, 106, 107, 108, 109, 110, 111, 112, 113, 114, 115, 116, 117, 118] (by decide +kernel) (by decide +kernel)
set_option maxRecDepth 20000 in
theorem gX4_take_X4_takeTell : GoodIn wsX4_take (wsV RX4 139 RX4 yX4_takeTell wsX4_takeTell) := goodIn_app (goodIn_of _ (by decide +kernel)) ggX4_take_X4_takeTell
set_option maxRecDepth 20000 in
theorem ggX4_take_X4_takeMix : GoodIn wsX4_take wsX4_takeMix := goodIn_r _ [42, 12, 43, 44, 45, 46, 47, 4, 48, 13, 49, 50, 51, 52, 53, 54, 55, 56, 57, 58, 59, 60, 61, 62, 63, 64, 15, 65, 66, 67, 68, 69, 70, 71, 72, 73, 74, 75, 76, 77, 78, 79, 18, 19, 20, 21, 14, 17, 16, 22, 23, 24, 25, 26, 27, 28, 29, 30, 31, 32, 33, 34, 35, 36, 37, 80, 81, 82, 83, 84, 85, 86, 87, 88, 89, 90, 91, 92, 93, 94, 95, 96, 97, 98, 99, 100, 101, 102, 103, 104, 105, 106, 107, 108, 109, 110, 111, 112, 113, 114, 115, 116, 117, 118] (by decide +kernel) (by decide +kernel)
set_option maxRecDepth 20000 in
theorem gX4_take_X4_takeMix : GoodIn wsX4_take (wsV RX4 142 RX4 yX4_takeMix wsX4_takeMix) := goodIn_app (goodIn_of _ (by decide +kernel)) ggX4_take_X4_takeMix
theorem dX4_take_0 : decode cX4_take 0 = .ok (.aload_n 0, 1) := by decide +kernel
theorem dX4_take_1 : decode cX4_take 1 = .ok (.aload_n 1, 1) := by decide +kernel
theorem dX4_take_2 : decode cX4_take 2 = .ok (.getfield 134, 3) := by decide +kernel
theorem dX4_take_5 : decode cX4_take 5 = .ok (.aload_n 1, 1) := by decide +kernel
theorem dX4_take_6 : decode cX4_take 6 = .ok (.getfield 135, 3) := by decide +kernel
theorem dX4_take_9 : decode cX4_take 9 = .ok (.invokevirtual 136, 3) := by decide +kernel
theorem dX4_take_12 : decode cX4_take 12 = .ok (.pop, 1) := by decide +kernel
theorem dX4_take_13 : decode cX4_take 13 = .ok (.aload_n 1, 1) := by decide +kernel
theorem dX4_take_14 : decode cX4_take 14 = .ok (.getfield 125, 3) := by decide +kernel
theorem dX4_take_17 : decode cX4_take 17 = .ok (.iconst 1, 1) := by decide +kernel
theorem dX4_take_18 : decode cX4_take 18 = .ok (.if_icmp .ne 12, 3) := by decide +kernel
theorem dX4_take_21 : decode cX4_take 21 = .ok (.aload_n 0, 1) := by decide +kernel
theorem dX4_take_22 : decode cX4_take 22 = .ok (.aload_n 1, 1) := by decide +kernel
theorem dX4_take_23 : decode cX4_take 23 = .ok (.iload_n 2, 1) := by decide +kernel
theorem dX4_take_24 : decode cX4_take 24 = .ok (.invokevirtual 139, 3) := by decide +kernel
theorem dX4_take_27 : decode cX4_take 27 = .ok (.goto 9, 3) := by decide +kernel
theorem dX4_take_30 : decode cX4_take 30 = .ok (.aload_n 0, 1) := by decide +kernel
theorem dX4_take_31 : decode cX4_take 31 = .ok (.aload_n 1, 1) := by decide +kernel
theorem dX4_take_32 : decode cX4_take 32 = .ok (.iload_n 2, 1) := by decide +kernel
theorem dX4_take_33 : decode cX4_take 33 = .ok (.invokevirtual 142, 3) := by decide +kernel
theorem dX4_take_36 : decode cX4_take 36 = .ok (.return_, 1) := by decide +kernel
set_option maxRecDepth 20000 in
theorem ggX4_takeTell_X4_stir : GoodIn wsX4_takeTell wsX4_stir := goodIn_r _ [11, 3, 6, 5, 12, 13, 14, 15, 16, 17, 18, 19, 20, 21, 22, 23, 24, 25, 26, 27, 38, 39, 40, 41, 42, 43, 44, 45, 46, 47, 48, 49, 50, 51, 52, 53, 54, 55, 59, 60, 61, 62, 63, 64, 65, 66, 67] (by decide +kernel) (by decide +kernel)
set_option maxRecDepth 20000 in
theorem gX4_takeTell_X4_stir : GoodIn wsX4_takeTell (wsV RX4 145 RX4 yX4_stir wsX4_stir) := goodIn_app (goodIn_of _ (by decide +kernel)) ggX4_takeTell_X4_stir
set_option maxRecDepth 20000 in
theorem ggX4_takeTell_X1_below : GoodIn wsX4_takeTell wsX1_below := goodIn_r _ [25, 26, 27, 67] (by decide +kernel) (by decide +kernel)
set_option maxRecDepth 20000 in
theorem gX4_takeTell_X1_below : GoodIn wsX4_takeTell (wsV RX4 96 RX1 yX1_below wsX1_below) := goodIn_app (goodIn_of _ (by decide +kernel)) ggX4_takeTell_X1_below
theorem dX4_takeTell_0 : decode cX4_takeTell 0 = .ok (.aload_n 1, 1) := by decide +kernel
theorem dX4_takeTell_1 : decode cX4_takeTell 1 = .ok (.getfield 128, 3) := by decide +kernel
theorem dX4_takeTell_4 : decode cX4_takeTell 4 = .ok (.aload_n 0, 1) := by decide +kernel
theorem dX4_takeTell_5 : decode cX4_takeTell 5 = .ok (.getfield 59, 3) := by decide +kernel
theorem dX4_takeTell_8 : decode cX4_takeTell 8 = .ok (.if_icmp .ne 31, 3) := by decide +kernel
theorem dX4_takeTell_11 : decode cX4_takeTell 11 = .ok (.aload_n 1, 1) := by decide +kernel
theorem dX4_takeTell_12 : decode cX4_takeTell 12 = .ok (.getfield 129, 3) := by decide +kernel
theorem dX4_takeTell_15 : decode cX4_takeTell 15 = .ok (.aload_n 0, 1) := by decide +kernel
theorem dX4_takeTell_16 : decode cX4_takeTell 16 = .ok (.getfield 12, 3) := by decide +kernel
end
section
theorem dX4_takeTell_19 : decode cX4_takeTell 19 = .ok (.getfield 68, 3) := by decide +kernel
theorem dX4_takeTell_22 : decode cX4_takeTell 22 = .ok (.if_icmp .ne 17, 3) := by decide +kernel
theorem dX4_takeTell_25 : decode cX4_takeTell 25 = .ok (.aload_n 0, 1) := by decide +kernel
theorem dX4_takeTell_26 : decode cX4_takeTell 26 = .ok (.getfield 21, 3) := by decide +kernel
theorem dX4_takeTell_29 : decode cX4_takeTell 29 = .ok (.dup, 1) := by decide +kernel
theorem dX4_takeTell_30 : decode cX4_takeTell 30 = .ok (.getfield 116, 3) := by decide +kernel
theorem dX4_takeTell_33 : decode cX4_takeTell 33 = .ok (.iconst 1, 1) := by decide +kernel
theorem dX4_takeTell_34 : decode cX4_takeTell 34 = .ok (.iadd, 1) := by decide +kernel
theorem dX4_takeTell_35 : decode cX4_takeTell 35 = .ok (.putfield 116, 3) := by decide +kernel
theorem dX4_takeTell_38 : decode cX4_takeTell 38 = .ok (.return_, 1) := by decide +kernel
theorem dX4_takeTell_39 : decode cX4_takeTell 39 = .ok (.aload_n 0, 1) := by decide +kernel
theorem dX4_takeTell_40 : decode cX4_takeTell 40 = .ok (.iload_n 2, 1) := by decide +kernel
theorem dX4_takeTell_41 : decode cX4_takeTell 41 = .ok (.invokevirtual 145, 3) := by decide +kernel
theorem dX4_takeTell_44 : decode cX4_takeTell 44 = .ok (.aload_n 1, 1) := by decide +kernel
theorem dX4_takeTell_45 : decode cX4_takeTell 45 = .ok (.getfield 128, 3) := by decide +kernel
theorem dX4_takeTell_48 : decode cX4_takeTell 48 = .ok (.aload_n 0, 1) := by decide +kernel
theorem dX4_takeTell_49 : decode cX4_takeTell 49 = .ok (.getfield 59, 3) := by decide +kernel
theorem dX4_takeTell_52 : decode cX4_takeTell 52 = .ok (.if_icmp .lt 28, 3) := by decide +kernel
theorem dX4_takeTell_55 : decode cX4_takeTell 55 = .ok (.aload_n 1, 1) := by decide +kernel
theorem dX4_takeTell_56 : decode cX4_takeTell 56 = .ok (.getfield 128, 3) := by decide +kernel
theorem dX4_takeTell_59 : decode cX4_takeTell 59 = .ok (.aload_n 0, 1) := by decide +kernel
theorem dX4_takeTell_60 : decode cX4_takeTell 60 = .ok (.getfield 59, 3) := by decide +kernel
theorem dX4_takeTell_63 : decode cX4_takeTell 63 = .ok (.if_icmp .ne 21, 3) := by decide +kernel
theorem dX4_takeTell_66 : decode cX4_takeTell 66 = .ok (.aload_n 1, 1) := by decide +kernel
theorem dX4_takeTell_67 : decode cX4_takeTell 67 = .ok (.getfield 129, 3) := by decide +kernel
theorem dX4_takeTell_70 : decode cX4_takeTell 70 = .ok (.aload_n 0, 1) := by decide +kernel
theorem dX4_takeTell_71 : decode cX4_takeTell 71 = .ok (.getfield 12, 3) := by decide +kernel
theorem dX4_takeTell_74 : decode cX4_takeTell 74 = .ok (.getfield 68, 3) := by decide +kernel
theorem dX4_takeTell_77 : decode cX4_takeTell 77 = .ok (.if_icmp .ge 7, 3) := by decide +kernel
theorem dX4_takeTell_80 : decode cX4_takeTell 80 = .ok (.iconst 1, 1) := by decide +kernel
theorem dX4_takeTell_81 : decode cX4_takeTell 81 = .ok (.goto 4, 3) := by decide +kernel
theorem dX4_takeTell_84 : decode cX4_takeTell 84 = .ok (.iconst 0, 1) := by decide +kernel
theorem dX4_takeTell_85 : decode cX4_takeTell 85 = .ok (.istore_n 3, 1) := by decide +kernel
theorem dX4_takeTell_86 : decode cX4_takeTell 86 = .ok (.iload_n 3, 1) := by decide +kernel
theorem dX4_takeTell_87 : decode cX4_takeTell 87 = .ok (.ifCond .eq 33, 3) := by decide +kernel
theorem dX4_takeTell_90 : decode cX4_takeTell 90 = .ok (.aload_n 0, 1) := by decide +kernel
theorem dX4_takeTell_91 : decode cX4_takeTell 91 = .ok (.getfield 32, 3) := by decide +kernel
theorem dX4_takeTell_94 : decode cX4_takeTell 94 = .ok (.iconst (-1), 1) := by decide +kernel
theorem dX4_takeTell_95 : decode cX4_takeTell 95 = .ok (.if_icmp .ne 25, 3) := by decide +kernel
theorem dX4_takeTell_98 : decode cX4_takeTell 98 = .ok (.aload_n 0, 1) := by decide +kernel
theorem dX4_takeTell_99 : decode cX4_takeTell 99 = .ok (.iload_n 2, 1) := by decide +kernel
theorem dX4_takeTell_100 : decode cX4_takeTell 100 = .ok (.iconst 1, 1) := by decide +kernel
theorem dX4_takeTell_101 : decode cX4_takeTell 101 = .ok (.iadd, 1) := by decide +kernel
theorem dX4_takeTell_102 : decode cX4_takeTell 102 = .ok (.aload_n 0, 1) := by decide +kernel
theorem dX4_takeTell_103 : decode cX4_takeTell 103 = .ok (.getfield 40, 3) := by decide +kernel
theorem dX4_takeTell_106 : decode cX4_takeTell 106 = .ok (.aload_n 0, 1) := by decide +kernel
theorem dX4_takeTell_107 : decode cX4_takeTell 107 = .ok (.getfield 36, 3) := by decide +kernel
theorem dX4_takeTell_110 : decode cX4_takeTell 110 = .ok (.getfield 148, 3) := by decide +kernel
theorem dX4_takeTell_113 : decode cX4_takeTell 113 = .ok (.invokevirtual 96, 3) := by decide +kernel
theorem dX4_takeTell_116 : decode cX4_takeTell 116 = .ok (.iadd, 1) := by decide +kernel
theorem dX4_takeTell_117 : decode cX4_takeTell 117 = .ok (.putfield 32, 3) := by decide +kernel
theorem dX4_takeTell_120 : decode cX4_takeTell 120 = .ok (.return_, 1) := by decide +kernel
set_option maxRecDepth 20000 in
theorem ggX4_takeMix_X4_keep : GoodIn wsX4_takeMix wsX4_keep := goodIn_r _ [8, 1, 2, 3, 9, 10, 11, 12, 13, 14, 15, 16, 17, 18, 19, 20, 21, 74, 75, 76, 77, 78, 79, 80, 81, 82, 83, 84, 85, 86, 87, 88, 89, 90, 91, 92, 93, 94] (by decide +kernel) (by decide +kernel)
set_option maxRecDepth 20000 in
theorem gX4_takeMix_X4_keep : GoodIn wsX4_takeMix (wsV RX4 44 RX4 yX4_keep wsX4_keep) := goodIn_app (goodIn_of _ (by decide +kernel)) ggX4_takeMix_X4_keep
set_option maxRecDepth 20000 in
theorem ggX4_takeMix_X4_takeOwnMix : GoodIn wsX4_takeMix wsX4_takeOwnMix := goodIn_r _ [25, 26, 9, 2, 3, 27, 28, 29, 30, 13, 31, 15, 16, 17, 32, 33, 34, 35, 36, 37, 38, 39, 40, 41, 10, 11, 12, 14, 18, 19, 20, 21, 74, 75, 76, 77, 78, 79, 80, 81, 82, 83, 84, 85, 86, 87, 88, 89, 90, 91, 92, 93, 94] (by decide +kernel) (by decide +kernel)
set_option maxRecDepth 20000 in
theorem gX4_takeMix_X4_takeOwnMix : GoodIn wsX4_takeMix (wsV RX4 157 RX4 yX4_takeOwnMix wsX4_takeOwnMix) := goodIn_app (goodIn_of _ (by decide +kernel)) ggX4_takeMix_X4_takeOwnMix
set_option maxRecDepth 20000 in
theorem ggX4_takeMix_X4_stir : GoodIn wsX4_takeMix wsX4_stir := goodIn_r _ [45, 46, 47, 48, 49, 50, 51, 52, 53, 54, 55, 56, 57, 58, 59, 60, 61, 62, 63, 64, 74, 75, 76, 77, 78, 79, 80, 81, 82, 83, 84, 85, 86, 87, 88, 89, 90, 91, 95, 96, 97, 98, 99, 100, 101, 102, 103] (by decide +kernel) (by decide +kernel)
set_option maxRecDepth 20000 in
theorem gX4_takeMix_X4_stir : GoodIn wsX4_takeMix (wsV RX4 145 RX4 yX4_stir wsX4_stir) := goodIn_app (goodIn_of _ (by decide +kernel)) ggX4_takeMix_X4_stir
theorem dX4_takeMix_0 : decode cX4_takeMix 0 = .ok (.aload_n 1, 1) := by decide +kernel
theorem dX4_takeMix_1 : decode cX4_takeMix 1 = .ok (.getfield 128, 3) := by decide +kernel
theorem dX4_takeMix_4 : decode cX4_takeMix 4 = .ok (.aload_n 0, 1) := by decide +kernel
theorem dX4_takeMix_5 : decode cX4_takeMix 5 = .ok (.getfield 59, 3) := by decide +kernel
theorem dX4_takeMix_8 : decode cX4_takeMix 8 = .ok (.if_icmp .le 19, 3) := by decide +kernel
theorem dX4_takeMix_11 : decode cX4_takeMix 11 = .ok (.aload_n 0, 1) := by decide +kernel
theorem dX4_takeMix_12 : decode cX4_takeMix 12 = .ok (.aload_n 1, 1) := by decide +kernel
theorem dX4_takeMix_13 : decode cX4_takeMix 13 = .ok (.getfield 128, 3) := by decide +kernel
theorem dX4_takeMix_16 : decode cX4_takeMix 16 = .ok (.aload_n 1, 1) := by decide +kernel
theorem dX4_takeMix_17 : decode cX4_takeMix 17 = .ok (.getfield 130, 3) := by decide +kernel
theorem dX4_takeMix_20 : decode cX4_takeMix 20 = .ok (.aload_n 1, 1) := by decide +kernel
theorem dX4_takeMix_21 : decode cX4_takeMix 21 = .ok (.getfield 131, 3) := by decide +kernel
theorem dX4_takeMix_24 : decode cX4_takeMix 24 = .ok (.invokevirtual 44, 3) := by decide +kernel
theorem dX4_takeMix_27 : decode cX4_takeMix 27 = .ok (.aload_n 1, 1) := by decide +kernel
theorem dX4_takeMix_28 : decode cX4_takeMix 28 = .ok (.getfield 128, 3) := by decide +kernel
theorem dX4_takeMix_31 : decode cX4_takeMix 31 = .ok (.aload_n 0, 1) := by decide +kernel
theorem dX4_takeMix_32 : decode cX4_takeMix 32 = .ok (.getfield 59, 3) := by decide +kernel
theorem dX4_takeMix_35 : decode cX4_takeMix 35 = .ok (.if_icmp .ne 29, 3) := by decide +kernel
theorem dX4_takeMix_38 : decode cX4_takeMix 38 = .ok (.aload_n 1, 1) := by decide +kernel
theorem dX4_takeMix_39 : decode cX4_takeMix 39 = .ok (.getfield 130, 3) := by decide +kernel
theorem dX4_takeMix_42 : decode cX4_takeMix 42 = .ok (.aload_n 0, 1) := by decide +kernel
theorem dX4_takeMix_43 : decode cX4_takeMix 43 = .ok (.getfield 62, 3) := by decide +kernel
theorem dX4_takeMix_46 : decode cX4_takeMix 46 = .ok (.if_icmp .ne 18, 3) := by decide +kernel
theorem dX4_takeMix_49 : decode cX4_takeMix 49 = .ok (.aload_n 1, 1) := by decide +kernel
theorem dX4_takeMix_50 : decode cX4_takeMix 50 = .ok (.getfield 131, 3) := by decide +kernel
theorem dX4_takeMix_53 : decode cX4_takeMix 53 = .ok (.aload_n 0, 1) := by decide +kernel
theorem dX4_takeMix_54 : decode cX4_takeMix 54 = .ok (.getfield 56, 3) := by decide +kernel
theorem dX4_takeMix_57 : decode cX4_takeMix 57 = .ok (.if_icmp .ne 7, 3) := by decide +kernel
theorem dX4_takeMix_60 : decode cX4_takeMix 60 = .ok (.iconst 1, 1) := by decide +kernel
theorem dX4_takeMix_61 : decode cX4_takeMix 61 = .ok (.goto 4, 3) := by decide +kernel
theorem dX4_takeMix_64 : decode cX4_takeMix 64 = .ok (.iconst 0, 1) := by decide +kernel
theorem dX4_takeMix_65 : decode cX4_takeMix 65 = .ok (.istore_n 3, 1) := by decide +kernel
theorem dX4_takeMix_66 : decode cX4_takeMix 66 = .ok (.iload_n 3, 1) := by decide +kernel
theorem dX4_takeMix_67 : decode cX4_takeMix 67 = .ok (.ifCond .eq 18, 3) := by decide +kernel
theorem dX4_takeMix_70 : decode cX4_takeMix 70 = .ok (.aload_n 0, 1) := by decide +kernel
theorem dX4_takeMix_71 : decode cX4_takeMix 71 = .ok (.aload_n 1, 1) := by decide +kernel
theorem dX4_takeMix_72 : decode cX4_takeMix 72 = .ok (.getfield 151, 3) := by decide +kernel
theorem dX4_takeMix_75 : decode cX4_takeMix 75 = .ok (.aload_n 1, 1) := by decide +kernel
theorem dX4_takeMix_76 : decode cX4_takeMix 76 = .ok (.getfield 154, 3) := by decide +kernel
theorem dX4_takeMix_79 : decode cX4_takeMix 79 = .ok (.invokevirtual 157, 3) := by decide +kernel
theorem dX4_takeMix_82 : decode cX4_takeMix 82 = .ok (.ifCond .eq 8, 3) := by decide +kernel
theorem dX4_takeMix_85 : decode cX4_takeMix 85 = .ok (.aload_n 0, 1) := by decide +kernel
theorem dX4_takeMix_86 : decode cX4_takeMix 86 = .ok (.iload_n 2, 1) := by decide +kernel
theorem dX4_takeMix_87 : decode cX4_takeMix 87 = .ok (.invokevirtual 145, 3) := by decide +kernel
theorem dX4_takeMix_90 : decode cX4_takeMix 90 = .ok (.return_, 1) := by decide +kernel
set_option maxRecDepth 20000 in
theorem ggX4_takeOwnMix_X0_takeIn : GoodIn wsX4_takeOwnMix wsX0_takeIn := goodIn_r _ [10, 11, 12, 13, 14, 15, 9, 16, 17, 18, 19, 50, 51, 52] (by decide +kernel) (by decide +kernel)
set_option maxRecDepth 20000 in
theorem gX4_takeOwnMix_X0_takeIn : GoodIn wsX4_takeOwnMix (wsV RX4 48 RX0 yX0_takeIn wsX0_takeIn) := goodIn_app (goodIn_of _ (by decide +kernel)) ggX4_takeOwnMix_X0_takeIn
set_option maxRecDepth 20000 in
theorem ggX4_takeOwnMix_X0_sumOfPieces : GoodIn wsX4_takeOwnMix wsX0_sumOfPieces := goodIn_r _ [23, 12, 50, 51, 52] (by decide +kernel) (by decide +kernel)
set_option maxRecDepth 20000 in
theorem gX4_takeOwnMix_X0_sumOfPieces : GoodIn wsX4_takeOwnMix (wsV RX4 52 RX0 yX0_sumOfPieces wsX0_sumOfPieces) := goodIn_app (goodIn_of _ (by decide +kernel)) ggX4_takeOwnMix_X0_sumOfPieces
set_option maxRecDepth 20000 in
theorem ggX4_takeOwnMix_X0_empty : GoodIn wsX4_takeOwnMix wsX0_empty := goodIn_r _ [27, 11, 12, 13, 28, 29, 30, 31, 50, 51, 52] (by decide +kernel) (by decide +kernel)
set_option maxRecDepth 20000 in
theorem gX4_takeOwnMix_X0_empty : GoodIn wsX4_takeOwnMix (wsV RX4 65 RX0 yX0_empty wsX0_empty) := goodIn_app (goodIn_of _ (by decide +kernel)) ggX4_takeOwnMix_X0_empty
theorem dX4_takeOwnMix_0 : decode cX4_takeOwnMix 0 = .ok (.aload_n 0, 1) := by decide +kernel
theorem dX4_takeOwnMix_1 : decode cX4_takeOwnMix 1 = .ok (.iconst (-1), 1) := by decide +kernel
theorem dX4_takeOwnMix_2 : decode cX4_takeOwnMix 2 = .ok (.putfield 32, 3) := by decide +kernel
theorem dX4_takeOwnMix_5 : decode cX4_takeOwnMix 5 = .ok (.aload_n 0, 1) := by decide +kernel
theorem dX4_takeOwnMix_6 : decode cX4_takeOwnMix 6 = .ok (.getfield 12, 3) := by decide +kernel
theorem dX4_takeOwnMix_9 : decode cX4_takeOwnMix 9 = .ok (.iload_n 1, 1) := by decide +kernel
theorem dX4_takeOwnMix_10 : decode cX4_takeOwnMix 10 = .ok (.iload_n 2, 1) := by decide +kernel
theorem dX4_takeOwnMix_11 : decode cX4_takeOwnMix 11 = .ok (.invokevirtual 48, 3) := by decide +kernel
theorem dX4_takeOwnMix_14 : decode cX4_takeOwnMix 14 = .ok (.ifCond .ne 5, 3) := by decide +kernel
theorem dX4_takeOwnMix_17 : decode cX4_takeOwnMix 17 = .ok (.iconst 0, 1) := by decide +kernel
theorem dX4_takeOwnMix_18 : decode cX4_takeOwnMix 18 = .ok (.ireturn, 1) := by decide +kernel
theorem dX4_takeOwnMix_19 : decode cX4_takeOwnMix 19 = .ok (.aload_n 0, 1) := by decide +kernel
theorem dX4_takeOwnMix_20 : decode cX4_takeOwnMix 20 = .ok (.getfield 12, 3) := by decide +kernel
theorem dX4_takeOwnMix_23 : decode cX4_takeOwnMix 23 = .ok (.getfield 68, 3) := by decide +kernel
theorem dX4_takeOwnMix_26 : decode cX4_takeOwnMix 26 = .ok (.aload_n 0, 1) := by decide +kernel
theorem dX4_takeOwnMix_27 : decode cX4_takeOwnMix 27 = .ok (.getfield 62, 3) := by decide +kernel
theorem dX4_takeOwnMix_30 : decode cX4_takeOwnMix 30 = .ok (.if_icmp .ne 34, 3) := by decide +kernel
theorem dX4_takeOwnMix_33 : decode cX4_takeOwnMix 33 = .ok (.aload_n 0, 1) := by decide +kernel
theorem dX4_takeOwnMix_34 : decode cX4_takeOwnMix 34 = .ok (.getfield 12, 3) := by decide +kernel
theorem dX4_takeOwnMix_37 : decode cX4_takeOwnMix 37 = .ok (.invokevirtual 52, 3) := by decide +kernel
theorem dX4_takeOwnMix_40 : decode cX4_takeOwnMix 40 = .ok (.aload_n 0, 1) := by decide +kernel
theorem dX4_takeOwnMix_41 : decode cX4_takeOwnMix 41 = .ok (.getfield 56, 3) := by decide +kernel
theorem dX4_takeOwnMix_44 : decode cX4_takeOwnMix 44 = .ok (.if_icmp .eq 20, 3) := by decide +kernel
theorem dX4_takeOwnMix_47 : decode cX4_takeOwnMix 47 = .ok (.aload_n 0, 1) := by decide +kernel
theorem dX4_takeOwnMix_48 : decode cX4_takeOwnMix 48 = .ok (.getfield 12, 3) := by decide +kernel
theorem dX4_takeOwnMix_51 : decode cX4_takeOwnMix 51 = .ok (.invokevirtual 65, 3) := by decide +kernel
theorem dX4_takeOwnMix_54 : decode cX4_takeOwnMix 54 = .ok (.aload_n 0, 1) := by decide +kernel
theorem dX4_takeOwnMix_55 : decode cX4_takeOwnMix 55 = .ok (.dup, 1) := by decide +kernel
theorem dX4_takeOwnMix_56 : decode cX4_takeOwnMix 56 = .ok (.getfield 160, 3) := by decide +kernel
theorem dX4_takeOwnMix_59 : decode cX4_takeOwnMix 59 = .ok (.iconst 1, 1) := by decide +kernel
theorem dX4_takeOwnMix_60 : decode cX4_takeOwnMix 60 = .ok (.iadd, 1) := by decide +kernel
theorem dX4_takeOwnMix_61 : decode cX4_takeOwnMix 61 = .ok (.putfield 160, 3) := by decide +kernel
theorem dX4_takeOwnMix_64 : decode cX4_takeOwnMix 64 = .ok (.iconst 1, 1) := by decide +kernel
theorem dX4_takeOwnMix_65 : decode cX4_takeOwnMix 65 = .ok (.ireturn, 1) := by decide +kernel
set_option maxRecDepth 20000 in
theorem ggX4_end_X2_begin : GoodIn wsX4_end wsX2_begin := goodIn_r _ [15, 16, 17, 18, 19, 20, 21, 22, 23, 24, 25, 26, 57, 58, 59, 60, 65] (by decide +kernel) (by decide +kernel)
set_option maxRecDepth 20000 in
theorem gX4_end_X2_begin : GoodIn wsX4_end (wsV RX4 83 RX2 yX2_begin wsX2_begin) := goodIn_app (goodIn_of _ (by decide +kernel)) ggX4_end_X2_begin
set_option maxRecDepth 20000 in
theorem ggX4_end_X4_isWholeOf : GoodIn wsX4_end wsX4_isWholeOf := goodIn_r _ [31, 32, 33, 34, 35, 30, 36, 37, 38, 39, 40, 41, 42, 43, 44, 45, 46, 47, 48, 49, 50, 51, 52, 53, 54, 55, 56, 66, 67, 68] (by decide +kernel) (by decide +kernel)
set_option maxRecDepth 20000 in
theorem gX4_end_X4_isWholeOf : GoodIn wsX4_end (wsV RX4 175 RX4 yX4_isWholeOf wsX4_isWholeOf) := goodIn_app (goodIn_of _ (by decide +kernel)) ggX4_end_X4_isWholeOf
theorem dX4_end_0 : decode cX4_end 0 = .ok (.iload_n 1, 1) := by decide +kernel
theorem dX4_end_1 : decode cX4_end 1 = .ok (.iconst 1, 1) := by decide +kernel
theorem dX4_end_2 : decode cX4_end 2 = .ok (.iadd, 1) := by decide +kernel
theorem dX4_end_3 : decode cX4_end 3 = .ok (.aload_n 0, 1) := by decide +kernel
theorem dX4_end_4 : decode cX4_end 4 = .ok (.getfield 21, 3) := by decide +kernel
theorem dX4_end_7 : decode cX4_end 7 = .ok (.getfield 163, 3) := by decide +kernel
theorem dX4_end_10 : decode cX4_end 10 = .ok (.isub, 1) := by decide +kernel
theorem dX4_end_11 : decode cX4_end 11 = .ok (.aload_n 0, 1) := by decide +kernel
theorem dX4_end_12 : decode cX4_end 12 = .ok (.getfield 21, 3) := by decide +kernel
theorem dX4_end_15 : decode cX4_end 15 = .ok (.getfield 75, 3) := by decide +kernel
theorem dX4_end_18 : decode cX4_end 18 = .ok (.if_icmp .lt 38, 3) := by decide +kernel
theorem dX4_end_21 : decode cX4_end 21 = .ok (.aload_n 0, 1) := by decide +kernel
theorem dX4_end_22 : decode cX4_end 22 = .ok (.getfield 21, 3) := by decide +kernel
theorem dX4_end_25 : decode cX4_end 25 = .ok (.getfield 75, 3) := by decide +kernel
theorem dX4_end_28 : decode cX4_end 28 = .ok (.iconst 2, 1) := by decide +kernel
theorem dX4_end_29 : decode cX4_end 29 = .ok (.imul, 1) := by decide +kernel
theorem dX4_end_30 : decode cX4_end 30 = .ok (.aload_n 0, 1) := by decide +kernel
theorem dX4_end_31 : decode cX4_end 31 = .ok (.getfield 36, 3) := by decide +kernel
theorem dX4_end_34 : decode cX4_end 34 = .ok (.getfield 166, 3) := by decide +kernel
theorem dX4_end_37 : decode cX4_end 37 = .ok (.invokestatic 169, 3) := by decide +kernel
theorem dX4_end_40 : decode cX4_end 40 = .ok (.istore_n 2, 1) := by decide +kernel
theorem dX4_end_41 : decode cX4_end 41 = .ok (.aload_n 0, 1) := by decide +kernel
theorem dX4_end_42 : decode cX4_end 42 = .ok (.getfield 21, 3) := by decide +kernel
theorem dX4_end_45 : decode cX4_end 45 = .ok (.iload_n 2, 1) := by decide +kernel
theorem dX4_end_46 : decode cX4_end 46 = .ok (.iload_n 1, 1) := by decide +kernel
theorem dX4_end_47 : decode cX4_end 47 = .ok (.iconst 1, 1) := by decide +kernel
theorem dX4_end_48 : decode cX4_end 48 = .ok (.iadd, 1) := by decide +kernel
theorem dX4_end_49 : decode cX4_end 49 = .ok (.aload_n 0, 1) := by decide +kernel
theorem dX4_end_50 : decode cX4_end 50 = .ok (.getfield 40, 3) := by decide +kernel
theorem dX4_end_53 : decode cX4_end 53 = .ok (.invokevirtual 83, 3) := by decide +kernel
theorem dX4_end_56 : decode cX4_end 56 = .ok (.aload_n 0, 1) := by decide +kernel
theorem dX4_end_57 : decode cX4_end 57 = .ok (.getfield 87, 3) := by decide +kernel
theorem dX4_end_60 : decode cX4_end 60 = .ok (.ifCond .eq 32, 3) := by decide +kernel
theorem dX4_end_63 : decode cX4_end 63 = .ok (.iload_n 1, 1) := by decide +kernel
theorem dX4_end_64 : decode cX4_end 64 = .ok (.iconst 1, 1) := by decide +kernel
theorem dX4_end_65 : decode cX4_end 65 = .ok (.iadd, 1) := by decide +kernel
theorem dX4_end_66 : decode cX4_end 66 = .ok (.aload_n 0, 1) := by decide +kernel
theorem dX4_end_67 : decode cX4_end 67 = .ok (.getfield 90, 3) := by decide +kernel
theorem dX4_end_70 : decode cX4_end 70 = .ok (.if_icmp .lt 22, 3) := by decide +kernel
theorem dX4_end_73 : decode cX4_end 73 = .ok (.aload_n 0, 1) := by decide +kernel
theorem dX4_end_74 : decode cX4_end 74 = .ok (.aload_n 0, 1) := by decide +kernel
theorem dX4_end_75 : decode cX4_end 75 = .ok (.getfield 87, 3) := by decide +kernel
theorem dX4_end_78 : decode cX4_end 78 = .ok (.invokevirtual 175, 3) := by decide +kernel
theorem dX4_end_81 : decode cX4_end 81 = .ok (.ifCond .eq 11, 3) := by decide +kernel
theorem dX4_end_84 : decode cX4_end 84 = .ok (.aload_n 0, 1) := by decide +kernel
theorem dX4_end_85 : decode cX4_end 85 = .ok (.aload_n 0, 1) := by decide +kernel
theorem dX4_end_86 : decode cX4_end 86 = .ok (.getfield 87, 3) := by decide +kernel
theorem dX4_end_89 : decode cX4_end 89 = .ok (.putfield 179, 3) := by decide +kernel
theorem dX4_end_92 : decode cX4_end 92 = .ok (.return_, 1) := by decide +kernel
set_option maxRecDepth 20000 in
theorem ggX4_answer_X4_isWhole : GoodIn wsX4_answer wsX4_isWhole := goodIn_r _ [18, 1, 3, 2, 19, 20, 21, 22, 23, 24, 25, 26, 27, 28, 29, 30, 31, 32, 33, 34, 35, 36, 37, 38, 39] (by decide +kernel) (by decide +kernel)
set_option maxRecDepth 20000 in
theorem gX4_answer_X4_isWhole : GoodIn wsX4_answer (wsV RX4 71 RX4 yX4_isWhole wsX4_isWhole) := goodIn_app (goodIn_of _ (by decide +kernel)) ggX4_answer_X4_isWhole
theorem dX4_answer_0 : decode cX4_answer 0 = .ok (.iload_n 1, 1) := by decide +kernel
theorem dX4_answer_1 : decode cX4_answer 1 = .ok (.tableswitch 191 0 16 #[83, 88, 93, 101, 114, 119, 127, 135, 143, 151, 156, 161, 166, 171, 176, 181, 186], 83) := by decide +kernel
theorem dX4_answer_84 : decode cX4_answer 84 = .ok (.aload_n 0, 1) := by decide +kernel
theorem dX4_answer_85 : decode cX4_answer 85 = .ok (.getfield 59, 3) := by decide +kernel
theorem dX4_answer_88 : decode cX4_answer 88 = .ok (.ireturn, 1) := by decide +kernel
theorem dX4_answer_89 : decode cX4_answer 89 = .ok (.aload_n 0, 1) := by decide +kernel
theorem dX4_answer_90 : decode cX4_answer 90 = .ok (.getfield 62, 3) := by decide +kernel
theorem dX4_answer_93 : decode cX4_answer 93 = .ok (.ireturn, 1) := by decide +kernel
theorem dX4_answer_94 : decode cX4_answer 94 = .ok (.aload_n 0, 1) := by decide +kernel
theorem dX4_answer_95 : decode cX4_answer 95 = .ok (.getfield 12, 3) := by decide +kernel
theorem dX4_answer_98 : decode cX4_answer 98 = .ok (.getfield 68, 3) := by decide +kernel
theorem dX4_answer_101 : decode cX4_answer 101 = .ok (.ireturn, 1) := by decide +kernel
theorem dX4_answer_102 : decode cX4_answer 102 = .ok (.aload_n 0, 1) := by decide +kernel
theorem dX4_answer_103 : decode cX4_answer 103 = .ok (.invokevirtual 71, 3) := by decide +kernel
theorem dX4_answer_106 : decode cX4_answer 106 = .ok (.ifCond .eq 7, 3) := by decide +kernel
theorem dX4_answer_109 : decode cX4_answer 109 = .ok (.iconst 1, 1) := by decide +kernel
theorem dX4_answer_110 : decode cX4_answer 110 = .ok (.goto 4, 3) := by decide +kernel
theorem dX4_answer_113 : decode cX4_answer 113 = .ok (.iconst 0, 1) := by decide +kernel
theorem dX4_answer_114 : decode cX4_answer 114 = .ok (.ireturn, 1) := by decide +kernel
theorem dX4_answer_115 : decode cX4_answer 115 = .ok (.aload_n 0, 1) := by decide +kernel
theorem dX4_answer_116 : decode cX4_answer 116 = .ok (.getfield 179, 3) := by decide +kernel
theorem dX4_answer_119 : decode cX4_answer 119 = .ok (.ireturn, 1) := by decide +kernel
theorem dX4_answer_120 : decode cX4_answer 120 = .ok (.aload_n 0, 1) := by decide +kernel
theorem dX4_answer_121 : decode cX4_answer 121 = .ok (.getfield 21, 3) := by decide +kernel
theorem dX4_answer_124 : decode cX4_answer 124 = .ok (.getfield 75, 3) := by decide +kernel
theorem dX4_answer_127 : decode cX4_answer 127 = .ok (.ireturn, 1) := by decide +kernel
theorem dX4_answer_128 : decode cX4_answer 128 = .ok (.aload_n 0, 1) := by decide +kernel
theorem dX4_answer_129 : decode cX4_answer 129 = .ok (.getfield 21, 3) := by decide +kernel
theorem dX4_answer_132 : decode cX4_answer 132 = .ok (.getfield 163, 3) := by decide +kernel
theorem dX4_answer_135 : decode cX4_answer 135 = .ok (.ireturn, 1) := by decide +kernel
theorem dX4_answer_136 : decode cX4_answer 136 = .ok (.aload_n 0, 1) := by decide +kernel
theorem dX4_answer_137 : decode cX4_answer 137 = .ok (.getfield 21, 3) := by decide +kernel
theorem dX4_answer_140 : decode cX4_answer 140 = .ok (.getfield 113, 3) := by decide +kernel
theorem dX4_answer_143 : decode cX4_answer 143 = .ok (.ireturn, 1) := by decide +kernel
theorem dX4_answer_144 : decode cX4_answer 144 = .ok (.aload_n 0, 1) := by decide +kernel
theorem dX4_answer_145 : decode cX4_answer 145 = .ok (.getfield 21, 3) := by decide +kernel
theorem dX4_answer_148 : decode cX4_answer 148 = .ok (.getfield 116, 3) := by decide +kernel
theorem dX4_answer_151 : decode cX4_answer 151 = .ok (.ireturn, 1) := by decide +kernel
theorem dX4_answer_152 : decode cX4_answer 152 = .ok (.aload_n 0, 1) := by decide +kernel
theorem dX4_answer_153 : decode cX4_answer 153 = .ok (.getfield 32, 3) := by decide +kernel
theorem dX4_answer_156 : decode cX4_answer 156 = .ok (.ireturn, 1) := by decide +kernel
theorem dX4_answer_157 : decode cX4_answer 157 = .ok (.aload_n 0, 1) := by decide +kernel
theorem dX4_answer_158 : decode cX4_answer 158 = .ok (.getfield 122, 3) := by decide +kernel
theorem dX4_answer_161 : decode cX4_answer 161 = .ok (.ireturn, 1) := by decide +kernel
theorem dX4_answer_162 : decode cX4_answer 162 = .ok (.aload_n 0, 1) := by decide +kernel
theorem dX4_answer_163 : decode cX4_answer 163 = .ok (.getfield 110, 3) := by decide +kernel
theorem dX4_answer_166 : decode cX4_answer 166 = .ok (.ireturn, 1) := by decide +kernel
theorem dX4_answer_167 : decode cX4_answer 167 = .ok (.aload_n 0, 1) := by decide +kernel
theorem dX4_answer_168 : decode cX4_answer 168 = .ok (.getfield 182, 3) := by decide +kernel
theorem dX4_answer_171 : decode cX4_answer 171 = .ok (.ireturn, 1) := by decide +kernel
theorem dX4_answer_172 : decode cX4_answer 172 = .ok (.aload_n 0, 1) := by decide +kernel
theorem dX4_answer_173 : decode cX4_answer 173 = .ok (.getfield 185, 3) := by decide +kernel
theorem dX4_answer_176 : decode cX4_answer 176 = .ok (.ireturn, 1) := by decide +kernel
theorem dX4_answer_177 : decode cX4_answer 177 = .ok (.aload_n 0, 1) := by decide +kernel
theorem dX4_answer_178 : decode cX4_answer 178 = .ok (.getfield 160, 3) := by decide +kernel
theorem dX4_answer_181 : decode cX4_answer 181 = .ok (.ireturn, 1) := by decide +kernel
theorem dX4_answer_182 : decode cX4_answer 182 = .ok (.aload_n 0, 1) := by decide +kernel
theorem dX4_answer_183 : decode cX4_answer 183 = .ok (.getfield 87, 3) := by decide +kernel
theorem dX4_answer_186 : decode cX4_answer 186 = .ok (.ireturn, 1) := by decide +kernel
theorem dX4_answer_187 : decode cX4_answer 187 = .ok (.aload_n 0, 1) := by decide +kernel
theorem dX4_answer_188 : decode cX4_answer 188 = .ok (.getfield 90, 3) := by decide +kernel
theorem dX4_answer_191 : decode cX4_answer 191 = .ok (.ireturn, 1) := by decide +kernel
theorem dX4_answer_192 : decode cX4_answer 192 = .ok (.iconst (-1), 1) := by decide +kernel
theorem dX4_answer_193 : decode cX4_answer 193 = .ok (.ireturn, 1) := by decide +kernel
theorem dX5_init_0 : decode cX5_init 0 = .ok (.aload_n 0, 1) := by decide +kernel
theorem dX5_init_1 : decode cX5_init 1 = .ok (.invokespecial 1, 3) := by decide +kernel
theorem dX5_init_4 : decode cX5_init 4 = .ok (.aload_n 0, 1) := by decide +kernel
theorem dX5_init_5 : decode cX5_init 5 = .ok (.iconst 2, 1) := by decide +kernel
theorem dX5_init_6 : decode cX5_init 6 = .ok (.putfield 7, 3) := by decide +kernel
theorem dX5_init_9 : decode cX5_init 9 = .ok (.aload_n 0, 1) := by decide +kernel
theorem dX5_init_10 : decode cX5_init 10 = .ok (.iconst 4, 1) := by decide +kernel
theorem dX5_init_11 : decode cX5_init 11 = .ok (.putfield 13, 3) := by decide +kernel
theorem dX5_init_14 : decode cX5_init 14 = .ok (.aload_n 0, 1) := by decide +kernel
theorem dX5_init_15 : decode cX5_init 15 = .ok (.bipush 64, 2) := by decide +kernel
theorem dX5_init_17 : decode cX5_init 17 = .ok (.putfield 16, 3) := by decide +kernel
theorem dX5_init_20 : decode cX5_init 20 = .ok (.aload_n 0, 1) := by decide +kernel
theorem dX5_init_21 : decode cX5_init 21 = .ok (.bipush 6, 2) := by decide +kernel
theorem dX5_init_23 : decode cX5_init 23 = .ok (.putfield 19, 3) := by decide +kernel
theorem dX5_init_26 : decode cX5_init 26 = .ok (.return_, 1) := by decide +kernel
set_option maxRecDepth 20000 in
theorem ggX6_init_X1_init : GoodIn wsX6_init wsX1_init := goodIn_r _ [19, 20, 2, 3, 21, 33] (by decide +kernel) (by decide +kernel)
set_option maxRecDepth 20000 in
theorem gX6_init_X1_init_n9 : GoodIn wsX6_init (wsX1_init) := ggX6_init_X1_init
set_option maxRecDepth 20000 in
theorem ggX6_init_X5_init : GoodIn wsX6_init wsX5_init := goodIn_r _ [23, 24, 2, 3, 25, 26, 27, 28, 44, 45, 46, 47] (by decide +kernel) (by decide +kernel)
set_option maxRecDepth 20000 in
theorem gX6_init_X5_init_n18 : GoodIn wsX6_init (wsX5_init) := ggX6_init_X5_init
set_option maxRecDepth 20000 in
theorem ggX6_init_J7_fill_53178 : GoodIn wsX6_init wsJ7_fill_53178 := goodIn_r _ [32] (by decide +kernel) (by decide +kernel)
set_option maxRecDepth 20000 in
theorem gX6_init_J7_fill_53178 : GoodIn wsX6_init (va_wsS RX6 33 yJ7_fill_53178 wsJ7_fill_53178) := goodIn_app (goodIn_of _ (by decide +kernel)) ggX6_init_J7_fill_53178
theorem dX6_init_0 : decode cX6_init 0 = .ok (.aload_n 0, 1) := by decide +kernel
theorem dX6_init_1 : decode cX6_init 1 = .ok (.invokespecial 1, 3) := by decide +kernel
theorem dX6_init_4 : decode cX6_init 4 = .ok (.aload_n 0, 1) := by decide +kernel
theorem dX6_init_5 : decode cX6_init 5 = .ok (.new 7, 3) := by decide +kernel
theorem dX6_init_8 : decode cX6_init 8 = .ok (.dup, 1) := by decide +kernel
theorem dX6_init_9 : decode cX6_init 9 = .ok (.invokespecial 9, 3) := by decide +kernel
theorem dX6_init_12 : decode cX6_init 12 = .ok (.putfield 10, 3) := by decide +kernel
theorem dX6_init_15 : decode cX6_init 15 = .ok (.aload_n 0, 1) := by decide +kernel
theorem dX6_init_16 : decode cX6_init 16 = .ok (.new 16, 3) := by decide +kernel
theorem dX6_init_19 : decode cX6_init 19 = .ok (.dup, 1) := by decide +kernel
theorem dX6_init_20 : decode cX6_init 20 = .ok (.invokespecial 18, 3) := by decide +kernel
theorem dX6_init_23 : decode cX6_init 23 = .ok (.putfield 19, 3) := by decide +kernel
theorem dX6_init_26 : decode cX6_init 26 = .ok (.aload_n 0, 1) := by decide +kernel
theorem dX6_init_27 : decode cX6_init 27 = .ok (.bipush 12, 2) := by decide +kernel
theorem dX6_init_29 : decode cX6_init 29 = .ok (.anewarray 23, 3) := by decide +kernel
theorem dX6_init_32 : decode cX6_init 32 = .ok (.putfield 25, 3) := by decide +kernel
theorem dX6_init_35 : decode cX6_init 35 = .ok (.aload_n 0, 1) := by decide +kernel
theorem dX6_init_36 : decode cX6_init 36 = .ok (.sipush 144, 3) := by decide +kernel
theorem dX6_init_39 : decode cX6_init 39 = .ok (.newarray .int, 2) := by decide +kernel
theorem dX6_init_41 : decode cX6_init 41 = .ok (.putfield 29, 3) := by decide +kernel
theorem dX6_init_44 : decode cX6_init 44 = .ok (.aload_n 0, 1) := by decide +kernel
theorem dX6_init_45 : decode cX6_init 45 = .ok (.getfield 29, 3) := by decide +kernel
theorem dX6_init_48 : decode cX6_init 48 = .ok (.iconst (-1), 1) := by decide +kernel
theorem dX6_init_49 : decode cX6_init 49 = .ok (.invokestatic 33, 3) := by decide +kernel
theorem dX6_init_52 : decode cX6_init 52 = .ok (.aload_n 0, 1) := by decide +kernel
theorem dX6_init_53 : decode cX6_init 53 = .ok (.bipush 12, 2) := by decide +kernel
theorem dX6_init_55 : decode cX6_init 55 = .ok (.newarray .int, 2) := by decide +kernel
theorem dX6_init_57 : decode cX6_init 57 = .ok (.putfield 39, 3) := by decide +kernel
theorem dX6_init_60 : decode cX6_init 60 = .ok (.aload_n 0, 1) := by decide +kernel
theorem dX6_init_61 : decode cX6_init 61 = .ok (.iconst (-1), 1) := by decide +kernel
theorem dX6_init_62 : decode cX6_init 62 = .ok (.putfield 42, 3) := by decide +kernel
theorem dX6_init_65 : decode cX6_init 65 = .ok (.return_, 1) := by decide +kernel
theorem dX6_seed_0 : decode cX6_seed 0 = .ok (.aload_n 0, 1) := by decide +kernel
theorem dX6_seed_1 : decode cX6_seed 1 = .ok (.getfield 10, 3) := by decide +kernel
theorem dX6_seed_4 : decode cX6_seed 4 = .ok (.iload_n 1, 1) := by decide +kernel
theorem dX6_seed_5 : decode cX6_seed 5 = .ok (.putfield 46, 3) := by decide +kernel
theorem dX6_seed_8 : decode cX6_seed 8 = .ok (.return_, 1) := by decide +kernel
set_option maxRecDepth 20000 in
theorem ggX6_rules_X6_within : GoodIn wsX6_rules wsX6_within := goodIn_r _ [6] (by decide +kernel) (by decide +kernel)
set_option maxRecDepth 20000 in
theorem gX6_rules_X6_within : GoodIn wsX6_rules (va_wsS RX6 49 yX6_within wsX6_within) := goodIn_app (goodIn_of _ (by decide +kernel)) ggX6_rules_X6_within
theorem dX6_rules_0 : decode cX6_rules 0 = .ok (.iload_n 1, 1) := by decide +kernel
theorem dX6_rules_1 : decode cX6_rules 1 = .ok (.iconst 1, 1) := by decide +kernel
theorem dX6_rules_2 : decode cX6_rules 2 = .ok (.bipush 9, 2) := by decide +kernel
theorem dX6_rules_4 : decode cX6_rules 4 = .ok (.invokestatic 49, 3) := by decide +kernel
theorem dX6_rules_7 : decode cX6_rules 7 = .ok (.ifCond .eq 39, 3) := by decide +kernel
theorem dX6_rules_10 : decode cX6_rules 10 = .ok (.iload_n 2, 1) := by decide +kernel
theorem dX6_rules_11 : decode cX6_rules 11 = .ok (.iconst 2, 1) := by decide +kernel
theorem dX6_rules_12 : decode cX6_rules 12 = .ok (.bipush 64, 2) := by decide +kernel
theorem dX6_rules_14 : decode cX6_rules 14 = .ok (.invokestatic 49, 3) := by decide +kernel
theorem dX6_rules_17 : decode cX6_rules 17 = .ok (.ifCond .eq 29, 3) := by decide +kernel
theorem dX6_rules_20 : decode cX6_rules 20 = .ok (.iload_n 3, 1) := by decide +kernel
theorem dX6_rules_21 : decode cX6_rules 21 = .ok (.iload_n 2, 1) := by decide +kernel
theorem dX6_rules_22 : decode cX6_rules 22 = .ok (.sipush 1024, 3) := by decide +kernel
theorem dX6_rules_25 : decode cX6_rules 25 = .ok (.invokestatic 49, 3) := by decide +kernel
theorem dX6_rules_28 : decode cX6_rules 28 = .ok (.ifCond .eq 18, 3) := by decide +kernel
theorem dX6_rules_31 : decode cX6_rules 31 = .ok (.iload 4, 2) := by decide +kernel
theorem dX6_rules_33 : decode cX6_rules 33 = .ok (.iconst 1, 1) := by decide +kernel
theorem dX6_rules_34 : decode cX6_rules 34 = .ok (.bipush 32, 2) := by decide +kernel
theorem dX6_rules_36 : decode cX6_rules 36 = .ok (.invokestatic 49, 3) := by decide +kernel
theorem dX6_rules_39 : decode cX6_rules 39 = .ok (.ifCond .eq 7, 3) := by decide +kernel
theorem dX6_rules_42 : decode cX6_rules 42 = .ok (.iconst 1, 1) := by decide +kernel
theorem dX6_rules_43 : decode cX6_rules 43 = .ok (.goto 4, 3) := by decide +kernel
theorem dX6_rules_46 : decode cX6_rules 46 = .ok (.iconst 0, 1) := by decide +kernel
theorem dX6_rules_47 : decode cX6_rules 47 = .ok (.istore 5, 2) := by decide +kernel
theorem dX6_rules_49 : decode cX6_rules 49 = .ok (.iload 5, 2) := by decide +kernel
theorem dX6_rules_51 : decode cX6_rules 51 = .ok (.ifCond .eq 10, 3) := by decide +kernel
theorem dX6_rules_54 : decode cX6_rules 54 = .ok (.aload_n 0, 1) := by decide +kernel
theorem dX6_rules_55 : decode cX6_rules 55 = .ok (.getfield 53, 3) := by decide +kernel
theorem dX6_rules_58 : decode cX6_rules 58 = .ok (.ifCond .le 5, 3) := by decide +kernel
theorem dX6_rules_61 : decode cX6_rules 61 = .ok (.iconst 0, 1) := by decide +kernel
theorem dX6_rules_62 : decode cX6_rules 62 = .ok (.ireturn, 1) := by decide +kernel
theorem dX6_rules_63 : decode cX6_rules 63 = .ok (.aload_n 0, 1) := by decide +kernel
theorem dX6_rules_64 : decode cX6_rules 64 = .ok (.getfield 19, 3) := by decide +kernel
theorem dX6_rules_67 : decode cX6_rules 67 = .ok (.iload_n 1, 1) := by decide +kernel
theorem dX6_rules_68 : decode cX6_rules 68 = .ok (.putfield 56, 3) := by decide +kernel
theorem dX6_rules_71 : decode cX6_rules 71 = .ok (.aload_n 0, 1) := by decide +kernel
theorem dX6_rules_72 : decode cX6_rules 72 = .ok (.getfield 19, 3) := by decide +kernel
theorem dX6_rules_75 : decode cX6_rules 75 = .ok (.iload_n 2, 1) := by decide +kernel
theorem dX6_rules_76 : decode cX6_rules 76 = .ok (.putfield 59, 3) := by decide +kernel
theorem dX6_rules_79 : decode cX6_rules 79 = .ok (.aload_n 0, 1) := by decide +kernel
theorem dX6_rules_80 : decode cX6_rules 80 = .ok (.getfield 19, 3) := by decide +kernel
theorem dX6_rules_83 : decode cX6_rules 83 = .ok (.iload_n 3, 1) := by decide +kernel
theorem dX6_rules_84 : decode cX6_rules 84 = .ok (.putfield 62, 3) := by decide +kernel
theorem dX6_rules_87 : decode cX6_rules 87 = .ok (.aload_n 0, 1) := by decide +kernel
theorem dX6_rules_88 : decode cX6_rules 88 = .ok (.getfield 19, 3) := by decide +kernel
theorem dX6_rules_91 : decode cX6_rules 91 = .ok (.iload 4, 2) := by decide +kernel
theorem dX6_rules_93 : decode cX6_rules 93 = .ok (.putfield 65, 3) := by decide +kernel
theorem dX6_rules_96 : decode cX6_rules 96 = .ok (.iconst 1, 1) := by decide +kernel
theorem dX6_rules_97 : decode cX6_rules 97 = .ok (.ireturn, 1) := by decide +kernel
set_option maxRecDepth 20000 in
theorem ggX6_machine_X4_init : GoodIn wsX6_machine wsX4_init := goodIn_r _ [11, 12, 13, 14, 15, 16, 17, 18, 19, 20, 21, 22, 23, 24, 25, 26, 27, 28, 29, 30, 31, 32, 33, 34, 35, 36, 37, 38, 39, 40, 41, 89, 90, 91, 67, 68, 69, 70, 71, 72, 73, 74, 75, 76, 77, 78, 79, 80, 81, 82, 83, 84, 92, 93, 94, 95, 96, 97, 98, 99, 100, 101, 102, 103, 104] (by decide +kernel) (by decide +kernel)
set_option maxRecDepth 20000 in
theorem gX6_machine_X4_init : GoodIn wsX6_machine (wsX4_init) := ggX6_machine_X4_init
set_option maxRecDepth 20000 in
theorem ggX6_machine_X2_begin : GoodIn wsX6_machine wsX2_begin := goodIn_r _ [45, 46, 47, 48, 49, 50, 51, 52, 53, 54, 55, 56, 92, 93, 94, 95, 105] (by decide +kernel) (by decide +kernel)
set_option maxRecDepth 20000 in
theorem gX6_machine_X2_begin : GoodIn wsX6_machine (wsV RX6 78 RX2 yX2_begin wsX2_begin) := goodIn_app (goodIn_of _ (by decide +kernel)) ggX6_machine_X2_begin
theorem dX6_machine_0 : decode cX6_machine 0 = .ok (.aload_n 0, 1) := by decide +kernel
theorem dX6_machine_1 : decode cX6_machine 1 = .ok (.getfield 53, 3) := by decide +kernel
theorem dX6_machine_4 : decode cX6_machine 4 = .ok (.istore_n 1, 1) := by decide +kernel
theorem dX6_machine_5 : decode cX6_machine 5 = .ok (.iload_n 1, 1) := by decide +kernel
theorem dX6_machine_6 : decode cX6_machine 6 = .ok (.ifCond .lt 12, 3) := by decide +kernel
theorem dX6_machine_9 : decode cX6_machine 9 = .ok (.iload_n 1, 1) := by decide +kernel
theorem dX6_machine_10 : decode cX6_machine 10 = .ok (.aload_n 0, 1) := by decide +kernel
theorem dX6_machine_11 : decode cX6_machine 11 = .ok (.getfield 25, 3) := by decide +kernel
theorem dX6_machine_14 : decode cX6_machine 14 = .ok (.arraylength, 1) := by decide +kernel
theorem dX6_machine_15 : decode cX6_machine 15 = .ok (.if_icmp .lt 5, 3) := by decide +kernel
theorem dX6_machine_18 : decode cX6_machine 18 = .ok (.iconst (-1), 1) := by decide +kernel
theorem dX6_machine_19 : decode cX6_machine 19 = .ok (.ireturn, 1) := by decide +kernel
theorem dX6_machine_20 : decode cX6_machine 20 = .ok (.new 23, 3) := by decide +kernel
theorem dX6_machine_23 : decode cX6_machine 23 = .ok (.dup, 1) := by decide +kernel
theorem dX6_machine_24 : decode cX6_machine 24 = .ok (.aload_n 0, 1) := by decide +kernel
theorem dX6_machine_25 : decode cX6_machine 25 = .ok (.getfield 19, 3) := by decide +kernel
theorem dX6_machine_28 : decode cX6_machine 28 = .ok (.aload_n 0, 1) := by decide +kernel
theorem dX6_machine_29 : decode cX6_machine 29 = .ok (.getfield 10, 3) := by decide +kernel
theorem dX6_machine_32 : decode cX6_machine 32 = .ok (.invokespecial 68, 3) := by decide +kernel
theorem dX6_machine_35 : decode cX6_machine 35 = .ok (.astore_n 2, 1) := by decide +kernel
theorem dX6_machine_36 : decode cX6_machine 36 = .ok (.aload_n 2, 1) := by decide +kernel
theorem dX6_machine_37 : decode cX6_machine 37 = .ok (.getfield 71, 3) := by decide +kernel
theorem dX6_machine_40 : decode cX6_machine 40 = .ok (.aload_n 0, 1) := by decide +kernel
theorem dX6_machine_41 : decode cX6_machine 41 = .ok (.getfield 19, 3) := by decide +kernel
theorem dX6_machine_44 : decode cX6_machine 44 = .ok (.getfield 59, 3) := by decide +kernel
theorem dX6_machine_47 : decode cX6_machine 47 = .ok (.aload_n 0, 1) := by decide +kernel
theorem dX6_machine_48 : decode cX6_machine 48 = .ok (.getfield 75, 3) := by decide +kernel
theorem dX6_machine_51 : decode cX6_machine 51 = .ok (.aload_n 0, 1) := by decide +kernel
theorem dX6_machine_52 : decode cX6_machine 52 = .ok (.getfield 10, 3) := by decide +kernel
theorem dX6_machine_55 : decode cX6_machine 55 = .ok (.invokevirtual 78, 3) := by decide +kernel
theorem dX6_machine_58 : decode cX6_machine 58 = .ok (.aload_n 0, 1) := by decide +kernel
theorem dX6_machine_59 : decode cX6_machine 59 = .ok (.getfield 25, 3) := by decide +kernel
theorem dX6_machine_62 : decode cX6_machine 62 = .ok (.iload_n 1, 1) := by decide +kernel
theorem dX6_machine_63 : decode cX6_machine 63 = .ok (.aload_n 2, 1) := by decide +kernel
theorem dX6_machine_64 : decode cX6_machine 64 = .ok (.aastore, 1) := by decide +kernel
theorem dX6_machine_65 : decode cX6_machine 65 = .ok (.aload_n 0, 1) := by decide +kernel
theorem dX6_machine_66 : decode cX6_machine 66 = .ok (.iload_n 1, 1) := by decide +kernel
theorem dX6_machine_67 : decode cX6_machine 67 = .ok (.iconst 1, 1) := by decide +kernel
theorem dX6_machine_68 : decode cX6_machine 68 = .ok (.iadd, 1) := by decide +kernel
theorem dX6_machine_69 : decode cX6_machine 69 = .ok (.putfield 53, 3) := by decide +kernel
theorem dX6_machine_72 : decode cX6_machine 72 = .ok (.iload_n 1, 1) := by decide +kernel
theorem dX6_machine_73 : decode cX6_machine 73 = .ok (.ireturn, 1) := by decide +kernel
set_option maxRecDepth 20000 in
theorem ggX6_hears_X6_machineAt : GoodIn wsX6_hears wsX6_machineAt := goodIn_r _ [6, 7, 8, 16, 17, 18, 19, 20, 21, 22, 23, 24, 25] (by decide +kernel) (by decide +kernel)
set_option maxRecDepth 20000 in
theorem gX6_hears_X6_machineAt : GoodIn wsX6_hears (wsV RX6 84 RX6 yX6_machineAt wsX6_machineAt) := goodIn_app (goodIn_of _ (by decide +kernel)) ggX6_hears_X6_machineAt
set_option maxRecDepth 20000 in
theorem ggX6_hears_X6_within : GoodIn wsX6_hears wsX6_within := goodIn_r _ [11] (by decide +kernel) (by decide +kernel)
set_option maxRecDepth 20000 in
theorem gX6_hears_X6_within : GoodIn wsX6_hears (va_wsS RX6 49 yX6_within wsX6_within) := goodIn_app (goodIn_of _ (by decide +kernel)) ggX6_hears_X6_within
set_option maxRecDepth 20000 in
theorem ggX6_hears_X6_pairOf : GoodIn wsX6_hears wsX6_pairOf := goodIn_r _ [15, 1, 9, 10, 5, 11, 16, 17, 18, 19, 20, 21, 22, 23, 24, 25] (by decide +kernel) (by decide +kernel)
set_option maxRecDepth 20000 in
theorem gX6_hears_X6_pairOf : GoodIn wsX6_hears (wsV RX6 88 RX6 yX6_pairOf wsX6_pairOf) := goodIn_app (goodIn_of _ (by decide +kernel)) ggX6_hears_X6_pairOf
theorem dX6_hears_0 : decode cX6_hears 0 = .ok (.aload_n 0, 1) := by decide +kernel
theorem dX6_hears_1 : decode cX6_hears 1 = .ok (.iload_n 1, 1) := by decide +kernel
theorem dX6_hears_2 : decode cX6_hears 2 = .ok (.invokevirtual 84, 3) := by decide +kernel
theorem dX6_hears_5 : decode cX6_hears 5 = .ok (.ifnull 26, 3) := by decide +kernel
theorem dX6_hears_8 : decode cX6_hears 8 = .ok (.aload_n 0, 1) := by decide +kernel
theorem dX6_hears_9 : decode cX6_hears 9 = .ok (.iload_n 2, 1) := by decide +kernel
theorem dX6_hears_10 : decode cX6_hears 10 = .ok (.invokevirtual 84, 3) := by decide +kernel
theorem dX6_hears_13 : decode cX6_hears 13 = .ok (.ifnull 18, 3) := by decide +kernel
theorem dX6_hears_16 : decode cX6_hears 16 = .ok (.iload_n 1, 1) := by decide +kernel
theorem dX6_hears_17 : decode cX6_hears 17 = .ok (.iload_n 2, 1) := by decide +kernel
theorem dX6_hears_18 : decode cX6_hears 18 = .ok (.if_icmp .eq 13, 3) := by decide +kernel
theorem dX6_hears_21 : decode cX6_hears 21 = .ok (.iload_n 3, 1) := by decide +kernel
theorem dX6_hears_22 : decode cX6_hears 22 = .ok (.iconst (-1), 1) := by decide +kernel
theorem dX6_hears_23 : decode cX6_hears 23 = .ok (.bipush 100, 2) := by decide +kernel
theorem dX6_hears_25 : decode cX6_hears 25 = .ok (.invokestatic 49, 3) := by decide +kernel
theorem dX6_hears_28 : decode cX6_hears 28 = .ok (.ifCond .ne 5, 3) := by decide +kernel
theorem dX6_hears_31 : decode cX6_hears 31 = .ok (.iconst 0, 1) := by decide +kernel
theorem dX6_hears_32 : decode cX6_hears 32 = .ok (.ireturn, 1) := by decide +kernel
theorem dX6_hears_33 : decode cX6_hears 33 = .ok (.aload_n 0, 1) := by decide +kernel
theorem dX6_hears_34 : decode cX6_hears 34 = .ok (.iload_n 1, 1) := by decide +kernel
theorem dX6_hears_35 : decode cX6_hears 35 = .ok (.iload_n 2, 1) := by decide +kernel
theorem dX6_hears_36 : decode cX6_hears 36 = .ok (.invokevirtual 88, 3) := by decide +kernel
theorem dX6_hears_39 : decode cX6_hears 39 = .ok (.istore 4, 2) := by decide +kernel
theorem dX6_hears_41 : decode cX6_hears 41 = .ok (.iload 4, 2) := by decide +kernel
theorem dX6_hears_43 : decode cX6_hears 43 = .ok (.iconst (-1), 1) := by decide +kernel
theorem dX6_hears_44 : decode cX6_hears 44 = .ok (.if_icmp .ne 5, 3) := by decide +kernel
theorem dX6_hears_47 : decode cX6_hears 47 = .ok (.iconst 0, 1) := by decide +kernel
theorem dX6_hears_48 : decode cX6_hears 48 = .ok (.ireturn, 1) := by decide +kernel
theorem dX6_hears_49 : decode cX6_hears 49 = .ok (.aload_n 0, 1) := by decide +kernel
theorem dX6_hears_50 : decode cX6_hears 50 = .ok (.getfield 29, 3) := by decide +kernel
theorem dX6_hears_53 : decode cX6_hears 53 = .ok (.iload 4, 2) := by decide +kernel
theorem dX6_hears_55 : decode cX6_hears 55 = .ok (.iload_n 3, 1) := by decide +kernel
theorem dX6_hears_56 : decode cX6_hears 56 = .ok (.iastore, 1) := by decide +kernel
theorem dX6_hears_57 : decode cX6_hears 57 = .ok (.iconst 1, 1) := by decide +kernel
theorem dX6_hears_58 : decode cX6_hears 58 = .ok (.ireturn, 1) := by decide +kernel
theorem dX6_piece_0 : decode cX6_piece 0 = .ok (.aload_n 0, 1) := by decide +kernel
theorem dX6_piece_1 : decode cX6_piece 1 = .ok (.getfield 92, 3) := by decide +kernel
theorem dX6_piece_4 : decode cX6_piece 4 = .ok (.ifCond .lt 15, 3) := by decide +kernel
theorem dX6_piece_7 : decode cX6_piece 7 = .ok (.aload_n 0, 1) := by decide +kernel
theorem dX6_piece_8 : decode cX6_piece 8 = .ok (.getfield 92, 3) := by decide +kernel
theorem dX6_piece_11 : decode cX6_piece 11 = .ok (.aload_n 0, 1) := by decide +kernel
theorem dX6_piece_12 : decode cX6_piece 12 = .ok (.getfield 39, 3) := by decide +kernel
theorem dX6_piece_15 : decode cX6_piece 15 = .ok (.arraylength, 1) := by decide +kernel
theorem dX6_piece_16 : decode cX6_piece 16 = .ok (.if_icmp .lt 5, 3) := by decide +kernel
theorem dX6_piece_19 : decode cX6_piece 19 = .ok (.iconst (-1), 1) := by decide +kernel
theorem dX6_piece_20 : decode cX6_piece 20 = .ok (.ireturn, 1) := by decide +kernel
theorem dX6_piece_21 : decode cX6_piece 21 = .ok (.aload_n 0, 1) := by decide +kernel
theorem dX6_piece_22 : decode cX6_piece 22 = .ok (.getfield 39, 3) := by decide +kernel
theorem dX6_piece_25 : decode cX6_piece 25 = .ok (.aload_n 0, 1) := by decide +kernel
theorem dX6_piece_26 : decode cX6_piece 26 = .ok (.getfield 92, 3) := by decide +kernel
theorem dX6_piece_29 : decode cX6_piece 29 = .ok (.iload_n 1, 1) := by decide +kernel
theorem dX6_piece_30 : decode cX6_piece 30 = .ok (.iastore, 1) := by decide +kernel
theorem dX6_piece_31 : decode cX6_piece 31 = .ok (.aload_n 0, 1) := by decide +kernel
theorem dX6_piece_32 : decode cX6_piece 32 = .ok (.dup, 1) := by decide +kernel
theorem dX6_piece_33 : decode cX6_piece 33 = .ok (.getfield 92, 3) := by decide +kernel
theorem dX6_piece_36 : decode cX6_piece 36 = .ok (.iconst 1, 1) := by decide +kernel
theorem dX6_piece_37 : decode cX6_piece 37 = .ok (.iadd, 1) := by decide +kernel
theorem dX6_piece_38 : decode cX6_piece 38 = .ok (.putfield 92, 3) := by decide +kernel
theorem dX6_piece_41 : decode cX6_piece 41 = .ok (.aload_n 0, 1) := by decide +kernel
theorem dX6_piece_42 : decode cX6_piece 42 = .ok (.getfield 92, 3) := by decide +kernel
theorem dX6_piece_45 : decode cX6_piece 45 = .ok (.ireturn, 1) := by decide +kernel
set_option maxRecDepth 20000 in
theorem ggX6_load_X6_machineAt : GoodIn wsX6_load wsX6_machineAt := goodIn_r _ [10, 11, 12, 78, 79, 80, 81, 82, 83, 84, 85, 86, 87] (by decide +kernel) (by decide +kernel)
set_option maxRecDepth 20000 in
theorem gX6_load_X6_machineAt : GoodIn wsX6_load (wsV RX6 84 RX6 yX6_machineAt wsX6_machineAt) := goodIn_app (goodIn_of _ (by decide +kernel)) ggX6_load_X6_machineAt
set_option maxRecDepth 20000 in
theorem ggX6_load_X6_within : GoodIn wsX6_load wsX6_within := goodIn_r _ [15] (by decide +kernel) (by decide +kernel)
set_option maxRecDepth 20000 in
theorem gX6_load_X6_within : GoodIn wsX6_load (va_wsS RX6 49 yX6_within wsX6_within) := goodIn_app (goodIn_of _ (by decide +kernel)) ggX6_load_X6_within
set_option maxRecDepth 20000 in
theorem ggX6_load_X4_keepWhole : GoodIn wsX6_load wsX4_keepWhole := goodIn_r _ [20, 21, 22, 23, 24, 25, 19, 26, 27, 28, 29, 30, 31, 32, 33, 34, 35, 36, 37, 38, 39, 40, 41, 42, 43, 44, 45, 46, 47, 48, 49, 50, 51, 52, 53, 54, 88, 89, 90, 91, 92, 93, 94, 95, 96, 97, 98, 99, 100, 101, 102, 103, 104, 105, 106, 107, 108] (by decide +kernel) (by decide +kernel)
set_option maxRecDepth 20000 in
theorem gX6_load_X4_keepWhole : GoodIn wsX6_load (wsV RX6 98 RX4 yX4_keepWhole wsX4_keepWhole) := goodIn_app (goodIn_of _ (by decide +kernel)) ggX6_load_X4_keepWhole
set_option maxRecDepth 20000 in
theorem ggX6_load_X4_stir : GoodIn wsX6_load wsX4_stir := goodIn_r _ [58, 59, 60, 61, 62, 63, 64, 65, 66, 67, 68, 69, 70, 71, 72, 73, 74, 75, 76, 77, 88, 89, 90, 91, 92, 93, 94, 95, 96, 97, 98, 99, 100, 101, 102, 103, 104, 105, 109, 110, 111, 112, 113, 114, 115, 116, 117] (by decide +kernel) (by decide +kernel)
set_option maxRecDepth 20000 in
theorem gX6_load_X4_stir : GoodIn wsX6_load (wsV RX6 102 RX4 yX4_stir wsX4_stir) := goodIn_app (goodIn_of _ (by decide +kernel)) ggX6_load_X4_stir
theorem dX6_load_0 : decode cX6_load 0 = .ok (.aload_n 0, 1) := by decide +kernel
theorem dX6_load_1 : decode cX6_load 1 = .ok (.iload_n 1, 1) := by decide +kernel
theorem dX6_load_2 : decode cX6_load 2 = .ok (.invokevirtual 84, 3) := by decide +kernel
theorem dX6_load_5 : decode cX6_load 5 = .ok (.astore_n 3, 1) := by decide +kernel
theorem dX6_load_6 : decode cX6_load 6 = .ok (.aload_n 3, 1) := by decide +kernel
theorem dX6_load_7 : decode cX6_load 7 = .ok (.ifnull 29, 3) := by decide +kernel
theorem dX6_load_10 : decode cX6_load 10 = .ok (.aload_n 0, 1) := by decide +kernel
theorem dX6_load_11 : decode cX6_load 11 = .ok (.getfield 92, 3) := by decide +kernel
theorem dX6_load_14 : decode cX6_load 14 = .ok (.ifCond .eq 22, 3) := by decide +kernel
theorem dX6_load_17 : decode cX6_load 17 = .ok (.iload_n 2, 1) := by decide +kernel
theorem dX6_load_18 : decode cX6_load 18 = .ok (.iconst 1, 1) := by decide +kernel
theorem dX6_load_19 : decode cX6_load 19 = .ok (.sipush 9999, 3) := by decide +kernel
theorem dX6_load_22 : decode cX6_load 22 = .ok (.invokestatic 49, 3) := by decide +kernel
theorem dX6_load_25 : decode cX6_load 25 = .ok (.ifCond .eq 11, 3) := by decide +kernel
theorem dX6_load_28 : decode cX6_load 28 = .ok (.iload_n 2, 1) := by decide +kernel
theorem dX6_load_29 : decode cX6_load 29 = .ok (.aload_n 3, 1) := by decide +kernel
theorem dX6_load_30 : decode cX6_load 30 = .ok (.getfield 95, 3) := by decide +kernel
theorem dX6_load_33 : decode cX6_load 33 = .ok (.if_icmp .gt 5, 3) := by decide +kernel
theorem dX6_load_36 : decode cX6_load 36 = .ok (.iconst (-1), 1) := by decide +kernel
theorem dX6_load_37 : decode cX6_load 37 = .ok (.ireturn, 1) := by decide +kernel
theorem dX6_load_38 : decode cX6_load 38 = .ok (.aload_n 3, 1) := by decide +kernel
theorem dX6_load_39 : decode cX6_load 39 = .ok (.iload_n 2, 1) := by decide +kernel
theorem dX6_load_40 : decode cX6_load 40 = .ok (.aload_n 0, 1) := by decide +kernel
theorem dX6_load_41 : decode cX6_load 41 = .ok (.getfield 39, 3) := by decide +kernel
theorem dX6_load_44 : decode cX6_load 44 = .ok (.aload_n 0, 1) := by decide +kernel
theorem dX6_load_45 : decode cX6_load 45 = .ok (.getfield 92, 3) := by decide +kernel
theorem dX6_load_48 : decode cX6_load 48 = .ok (.invokevirtual 98, 3) := by decide +kernel
theorem dX6_load_51 : decode cX6_load 51 = .ok (.aload_n 3, 1) := by decide +kernel
theorem dX6_load_52 : decode cX6_load 52 = .ok (.aload_n 0, 1) := by decide +kernel
theorem dX6_load_53 : decode cX6_load 53 = .ok (.getfield 75, 3) := by decide +kernel
theorem dX6_load_56 : decode cX6_load 56 = .ok (.invokevirtual 102, 3) := by decide +kernel
theorem dX6_load_59 : decode cX6_load 59 = .ok (.aload_n 0, 1) := by decide +kernel
theorem dX6_load_60 : decode cX6_load 60 = .ok (.iconst 0, 1) := by decide +kernel
theorem dX6_load_61 : decode cX6_load 61 = .ok (.putfield 92, 3) := by decide +kernel
theorem dX6_load_64 : decode cX6_load 64 = .ok (.iload_n 2, 1) := by decide +kernel
theorem dX6_load_65 : decode cX6_load 65 = .ok (.aload_n 0, 1) := by decide +kernel
theorem dX6_load_66 : decode cX6_load 66 = .ok (.getfield 106, 3) := by decide +kernel
theorem dX6_load_69 : decode cX6_load 69 = .ok (.if_icmp .le 13, 3) := by decide +kernel
theorem dX6_load_72 : decode cX6_load 72 = .ok (.aload_n 0, 1) := by decide +kernel
theorem dX6_load_73 : decode cX6_load 73 = .ok (.iload_n 2, 1) := by decide +kernel
theorem dX6_load_74 : decode cX6_load 74 = .ok (.putfield 106, 3) := by decide +kernel
theorem dX6_load_77 : decode cX6_load 77 = .ok (.aload_n 0, 1) := by decide +kernel
theorem dX6_load_78 : decode cX6_load 78 = .ok (.iconst (-1), 1) := by decide +kernel
theorem dX6_load_79 : decode cX6_load 79 = .ok (.putfield 42, 3) := by decide +kernel
theorem dX6_load_82 : decode cX6_load 82 = .ok (.aload_n 3, 1) := by decide +kernel
theorem dX6_load_83 : decode cX6_load 83 = .ok (.getfield 109, 3) := by decide +kernel
theorem dX6_load_86 : decode cX6_load 86 = .ok (.getfield 113, 3) := by decide +kernel
theorem dX6_load_89 : decode cX6_load 89 = .ok (.ireturn, 1) := by decide +kernel
set_option maxRecDepth 20000 in
theorem ggX6_turn_X6_machineAt : GoodIn wsX6_turn wsX6_machineAt := goodIn_r _ [6, 7, 8, 19, 20, 21, 22, 23, 24, 25, 26, 27, 28] (by decide +kernel) (by decide +kernel)
set_option maxRecDepth 20000 in
theorem gX6_turn_X6_machineAt : GoodIn wsX6_turn (wsV RX6 84 RX6 yX6_machineAt wsX6_machineAt) := goodIn_app (goodIn_of _ (by decide +kernel)) ggX6_turn_X6_machineAt
set_option maxRecDepth 20000 in
theorem ggX6_turn_X6_within : GoodIn wsX6_turn wsX6_within := goodIn_r _ [11] (by decide +kernel) (by decide +kernel)
set_option maxRecDepth 20000 in
theorem gX6_turn_X6_within : GoodIn wsX6_turn (va_wsS RX6 49 yX6_within wsX6_within) := goodIn_app (goodIn_of _ (by decide +kernel)) ggX6_turn_X6_within
set_option maxRecDepth 20000 in
theorem ggX6_turn_X4_takeTurn : GoodIn wsX6_turn wsX4_takeTurn := goodIn_r _ [16, 17, 18, 29, 30, 31, 32, 33, 34, 35, 36, 37, 38, 39, 40, 41, 42, 43, 44, 45, 46] (by decide +kernel) (by decide +kernel)
set_option maxRecDepth 20000 in
theorem gX6_turn_X4_takeTurn : GoodIn wsX6_turn (wsV RX6 119 RX4 yX4_takeTurn wsX4_takeTurn) := goodIn_app (goodIn_of _ (by decide +kernel)) ggX6_turn_X4_takeTurn
theorem dX6_turn_0 : decode cX6_turn 0 = .ok (.aload_n 0, 1) := by decide +kernel
theorem dX6_turn_1 : decode cX6_turn 1 = .ok (.iload_n 1, 1) := by decide +kernel
theorem dX6_turn_2 : decode cX6_turn 2 = .ok (.invokevirtual 84, 3) := by decide +kernel
theorem dX6_turn_5 : decode cX6_turn 5 = .ok (.astore 4, 2) := by decide +kernel
theorem dX6_turn_7 : decode cX6_turn 7 = .ok (.aload 4, 2) := by decide +kernel
theorem dX6_turn_9 : decode cX6_turn 9 = .ok (.ifnull 24, 3) := by decide +kernel
theorem dX6_turn_12 : decode cX6_turn 12 = .ok (.iload_n 2, 1) := by decide +kernel
theorem dX6_turn_13 : decode cX6_turn 13 = .ok (.iconst 1, 1) := by decide +kernel
theorem dX6_turn_14 : decode cX6_turn 14 = .ok (.sipush 9999, 3) := by decide +kernel
theorem dX6_turn_17 : decode cX6_turn 17 = .ok (.invokestatic 49, 3) := by decide +kernel
theorem dX6_turn_20 : decode cX6_turn 20 = .ok (.ifCond .eq 13, 3) := by decide +kernel
theorem dX6_turn_23 : decode cX6_turn 23 = .ok (.iload_n 3, 1) := by decide +kernel
theorem dX6_turn_24 : decode cX6_turn 24 = .ok (.iconst 0, 1) := by decide +kernel
theorem dX6_turn_25 : decode cX6_turn 25 = .ok (.ldc 118, 2) := by decide +kernel
theorem dX6_turn_27 : decode cX6_turn 27 = .ok (.invokestatic 49, 3) := by decide +kernel
theorem dX6_turn_30 : decode cX6_turn 30 = .ok (.ifCond .ne 5, 3) := by decide +kernel
theorem dX6_turn_33 : decode cX6_turn 33 = .ok (.iconst 0, 1) := by decide +kernel
theorem dX6_turn_34 : decode cX6_turn 34 = .ok (.ireturn, 1) := by decide +kernel
theorem dX6_turn_35 : decode cX6_turn 35 = .ok (.aload 4, 2) := by decide +kernel
theorem dX6_turn_37 : decode cX6_turn 37 = .ok (.iload_n 2, 1) := by decide +kernel
theorem dX6_turn_38 : decode cX6_turn 38 = .ok (.iload_n 3, 1) := by decide +kernel
theorem dX6_turn_39 : decode cX6_turn 39 = .ok (.invokevirtual 119, 3) := by decide +kernel
theorem dX6_turn_42 : decode cX6_turn 42 = .ok (.ireturn, 1) := by decide +kernel
set_option maxRecDepth 20000 in
theorem ggX6_lie_X6_machineAt : GoodIn wsX6_lie wsX6_machineAt := goodIn_r _ [6, 7, 8, 89, 90, 91, 92, 93, 94, 95, 96, 97, 98] (by decide +kernel) (by decide +kernel)
set_option maxRecDepth 20000 in
theorem gX6_lie_X6_machineAt : GoodIn wsX6_lie (wsV RX6 84 RX6 yX6_machineAt wsX6_machineAt) := goodIn_app (goodIn_of _ (by decide +kernel)) ggX6_lie_X6_machineAt
set_option maxRecDepth 20000 in
theorem ggX6_lie_X6_within : GoodIn wsX6_lie wsX6_within := goodIn_r _ [11] (by decide +kernel) (by decide +kernel)
set_option maxRecDepth 20000 in
theorem gX6_lie_X6_within : GoodIn wsX6_lie (va_wsS RX6 49 yX6_within wsX6_within) := goodIn_app (goodIn_of _ (by decide +kernel)) ggX6_lie_X6_within
set_option maxRecDepth 20000 in
theorem ggX6_lie_X4_takeOwnMix : GoodIn wsX6_lie wsX4_takeOwnMix := goodIn_r _ [16, 17, 18, 19, 20, 21, 22, 23, 24, 25, 26, 27, 28, 29, 30, 31, 32, 33, 34, 35, 36, 37, 38, 39, 40, 41, 42, 43, 44, 45, 46, 47, 71, 72, 73, 74, 75, 76, 77, 78, 79, 80, 81, 82, 83, 84, 85, 86, 87, 88, 99, 100, 101] (by decide +kernel) (by decide +kernel)
set_option maxRecDepth 20000 in
theorem gX6_lie_X4_takeOwnMix : GoodIn wsX6_lie (wsV RX6 126 RX4 yX4_takeOwnMix wsX4_takeOwnMix) := goodIn_app (goodIn_of _ (by decide +kernel)) ggX6_lie_X4_takeOwnMix
set_option maxRecDepth 20000 in
theorem ggX6_lie_X4_stir : GoodIn wsX6_lie wsX4_stir := goodIn_r _ [51, 52, 53, 54, 55, 56, 57, 58, 59, 60, 61, 62, 63, 64, 65, 66, 67, 68, 69, 70, 71, 72, 73, 74, 75, 76, 77, 78, 79, 80, 81, 82, 83, 84, 85, 86, 87, 88, 102, 103, 104, 105, 106, 107, 108, 109, 110] (by decide +kernel) (by decide +kernel)
set_option maxRecDepth 20000 in
theorem gX6_lie_X4_stir : GoodIn wsX6_lie (wsV RX6 102 RX4 yX4_stir wsX4_stir) := goodIn_app (goodIn_of _ (by decide +kernel)) ggX6_lie_X4_stir
theorem dX6_lie_0 : decode cX6_lie 0 = .ok (.aload_n 0, 1) := by decide +kernel
theorem dX6_lie_1 : decode cX6_lie 1 = .ok (.iload_n 1, 1) := by decide +kernel
theorem dX6_lie_2 : decode cX6_lie 2 = .ok (.invokevirtual 84, 3) := by decide +kernel
theorem dX6_lie_5 : decode cX6_lie 5 = .ok (.astore 4, 2) := by decide +kernel
theorem dX6_lie_7 : decode cX6_lie 7 = .ok (.aload 4, 2) := by decide +kernel
theorem dX6_lie_9 : decode cX6_lie 9 = .ok (.ifnull 28, 3) := by decide +kernel
theorem dX6_lie_12 : decode cX6_lie 12 = .ok (.aload 4, 2) := by decide +kernel
theorem dX6_lie_14 : decode cX6_lie 14 = .ok (.getfield 95, 3) := by decide +kernel
theorem dX6_lie_17 : decode cX6_lie 17 = .ok (.ifCond .eq 20, 3) := by decide +kernel
theorem dX6_lie_20 : decode cX6_lie 20 = .ok (.iload_n 2, 1) := by decide +kernel
theorem dX6_lie_21 : decode cX6_lie 21 = .ok (.iconst 1, 1) := by decide +kernel
theorem dX6_lie_22 : decode cX6_lie 22 = .ok (.iconst 1, 1) := by decide +kernel
theorem dX6_lie_23 : decode cX6_lie 23 = .ok (.aload 4, 2) := by decide +kernel
theorem dX6_lie_25 : decode cX6_lie 25 = .ok (.getfield 123, 3) := by decide +kernel
theorem dX6_lie_28 : decode cX6_lie 28 = .ok (.ishl, 1) := by decide +kernel
theorem dX6_lie_29 : decode cX6_lie 29 = .ok (.iconst 1, 1) := by decide +kernel
theorem dX6_lie_30 : decode cX6_lie 30 = .ok (.isub, 1) := by decide +kernel
theorem dX6_lie_31 : decode cX6_lie 31 = .ok (.invokestatic 49, 3) := by decide +kernel
theorem dX6_lie_34 : decode cX6_lie 34 = .ok (.ifCond .ne 5, 3) := by decide +kernel
theorem dX6_lie_37 : decode cX6_lie 37 = .ok (.iconst 0, 1) := by decide +kernel
theorem dX6_lie_38 : decode cX6_lie 38 = .ok (.ireturn, 1) := by decide +kernel
theorem dX6_lie_39 : decode cX6_lie 39 = .ok (.aload 4, 2) := by decide +kernel
theorem dX6_lie_41 : decode cX6_lie 41 = .ok (.iload_n 2, 1) := by decide +kernel
theorem dX6_lie_42 : decode cX6_lie 42 = .ok (.iload_n 3, 1) := by decide +kernel
theorem dX6_lie_43 : decode cX6_lie 43 = .ok (.invokevirtual 126, 3) := by decide +kernel
theorem dX6_lie_46 : decode cX6_lie 46 = .ok (.ifCond .eq 12, 3) := by decide +kernel
theorem dX6_lie_49 : decode cX6_lie 49 = .ok (.aload 4, 2) := by decide +kernel
theorem dX6_lie_51 : decode cX6_lie 51 = .ok (.aload_n 0, 1) := by decide +kernel
theorem dX6_lie_52 : decode cX6_lie 52 = .ok (.getfield 75, 3) := by decide +kernel
theorem dX6_lie_55 : decode cX6_lie 55 = .ok (.invokevirtual 102, 3) := by decide +kernel
theorem dX6_lie_58 : decode cX6_lie 58 = .ok (.iconst 1, 1) := by decide +kernel
theorem dX6_lie_59 : decode cX6_lie 59 = .ok (.ireturn, 1) := by decide +kernel
set_option maxRecDepth 20000 in
theorem ggX6_cut_X6_machineAt : GoodIn wsX6_cut wsX6_machineAt := goodIn_r _ [6, 7, 8, 45, 46, 47, 48, 49, 50, 51, 52, 53, 54] (by decide +kernel) (by decide +kernel)
set_option maxRecDepth 20000 in
theorem gX6_cut_X6_machineAt : GoodIn wsX6_cut (wsV RX6 84 RX6 yX6_machineAt wsX6_machineAt) := goodIn_app (goodIn_of _ (by decide +kernel)) ggX6_cut_X6_machineAt
set_option maxRecDepth 20000 in
theorem ggX6_cut_X4_losePower : GoodIn wsX6_cut wsX4_losePower := goodIn_r _ [13, 14, 15, 16, 17, 18, 19, 20, 21, 22, 23, 24, 25, 26, 27, 28, 29, 30, 31, 32, 33, 34, 35, 36, 37, 38, 39, 40, 41, 42, 43, 44, 55, 56, 57, 58, 59, 60, 61, 62, 63, 64, 65, 66, 67, 68, 69, 70, 71, 72, 73, 74, 75, 76, 77, 78, 79, 80, 81, 82, 83, 84] (by decide +kernel) (by decide +kernel)
set_option maxRecDepth 20000 in
theorem gX6_cut_X4_losePower : GoodIn wsX6_cut (wsV RX6 129 RX4 yX4_losePower wsX4_losePower) := goodIn_app (goodIn_of _ (by decide +kernel)) ggX6_cut_X4_losePower
theorem dX6_cut_0 : decode cX6_cut 0 = .ok (.aload_n 0, 1) := by decide +kernel
theorem dX6_cut_1 : decode cX6_cut 1 = .ok (.iload_n 1, 1) := by decide +kernel
theorem dX6_cut_2 : decode cX6_cut 2 = .ok (.invokevirtual 84, 3) := by decide +kernel
theorem dX6_cut_5 : decode cX6_cut 5 = .ok (.astore_n 3, 1) := by decide +kernel
theorem dX6_cut_6 : decode cX6_cut 6 = .ok (.aload_n 3, 1) := by decide +kernel
theorem dX6_cut_7 : decode cX6_cut 7 = .ok (.ifnonnull 5, 3) := by decide +kernel
theorem dX6_cut_10 : decode cX6_cut 10 = .ok (.iconst 0, 1) := by decide +kernel
theorem dX6_cut_11 : decode cX6_cut 11 = .ok (.ireturn, 1) := by decide +kernel
theorem dX6_cut_12 : decode cX6_cut 12 = .ok (.aload_n 3, 1) := by decide +kernel
theorem dX6_cut_13 : decode cX6_cut 13 = .ok (.iload_n 2, 1) := by decide +kernel
theorem dX6_cut_14 : decode cX6_cut 14 = .ok (.aload_n 0, 1) := by decide +kernel
theorem dX6_cut_15 : decode cX6_cut 15 = .ok (.getfield 75, 3) := by decide +kernel
theorem dX6_cut_18 : decode cX6_cut 18 = .ok (.invokevirtual 129, 3) := by decide +kernel
theorem dX6_cut_21 : decode cX6_cut 21 = .ok (.iconst 1, 1) := by decide +kernel
theorem dX6_cut_22 : decode cX6_cut 22 = .ok (.ireturn, 1) := by decide +kernel
set_option maxRecDepth 20000 in
theorem ggX6_ticks_X6_within : GoodIn wsX6_ticks wsX6_within := goodIn_r _ [6] (by decide +kernel) (by decide +kernel)
set_option maxRecDepth 20000 in
theorem gX6_ticks_X6_within : GoodIn wsX6_ticks (va_wsS RX6 49 yX6_within wsX6_within) := goodIn_app (goodIn_of _ (by decide +kernel)) ggX6_ticks_X6_within
set_option maxRecDepth 20000 in
theorem ggX6_ticks_X6_sendLetters : GoodIn wsX6_ticks wsX6_sendLetters := goodIn_r _ [10, 11, 2, 12, 13, 14, 5, 15, 16, 17, 18, 19, 20, 21, 22, 23, 24, 25, 26, 27, 28, 29, 30, 31, 32, 33, 34, 35, 36, 37, 38, 39, 40, 41, 42, 43, 44, 45, 46, 47, 48, 49, 50, 51, 52, 53, 54, 55, 56, 57, 58, 59, 60, 61, 62, 63, 64, 65, 66, 67, 184, 185, 186, 187, 188, 189, 190, 191, 192, 193, 194, 195, 196, 197, 198, 199, 200, 201, 202, 203, 204, 205, 206, 207, 208, 209, 210, 211, 212, 213, 214, 215, 216, 217, 218, 219, 220, 221, 222, 223, 224, 225, 226, 227, 228, 229, 230, 231, 232] (by decide +kernel) (by decide +kernel)
set_option maxRecDepth 20000 in
theorem gX6_ticks_X6_sendLetters : GoodIn wsX6_ticks (wsV RX6 134 RX6 yX6_sendLetters wsX6_sendLetters) := goodIn_app (goodIn_of _ (by decide +kernel)) ggX6_ticks_X6_sendLetters
set_option maxRecDepth 20000 in
theorem ggX6_ticks_X6_hearLetters : GoodIn wsX6_ticks wsX6_hearLetters := goodIn_r _ [71, 11, 12, 13, 14, 5, 15, 16, 72, 73, 74, 75, 76, 77, 78, 79, 80, 81, 82, 83, 84, 85, 86, 87, 88, 89, 90, 91, 3, 4, 6, 92, 31, 32, 33, 34, 35, 36, 184, 185, 186, 187, 188, 189, 190, 191, 192, 193, 194, 195, 196, 197, 198, 199, 200, 201, 202, 203, 204, 205, 206, 207, 208, 209, 210, 211, 223, 224, 225, 226, 227, 228, 229, 230, 231, 232] (by decide +kernel) (by decide +kernel)
set_option maxRecDepth 20000 in
theorem gX6_ticks_X6_hearLetters : GoodIn wsX6_ticks (wsV RX6 137 RX6 yX6_hearLetters wsX6_hearLetters) := goodIn_app (goodIn_of _ (by decide +kernel)) ggX6_ticks_X6_hearLetters
set_option maxRecDepth 20000 in
theorem ggX6_ticks_X6_letLettersWork : GoodIn wsX6_ticks wsX6_letLettersWork := goodIn_r _ [96, 11, 2, 12, 13, 14, 5, 15, 16, 97, 98, 99, 20, 100, 101, 102, 103, 104, 66, 67, 105, 106, 107, 108, 63, 23, 27, 22, 25, 28, 109, 110, 111, 112, 113, 114, 115, 116, 117, 118, 119, 120, 121, 122, 31, 32, 33, 34, 35, 36, 30, 123, 124, 125, 126, 64, 65, 127, 128, 129, 130, 131, 132, 133, 40, 134, 42, 43, 135, 136, 137, 138, 139, 140, 141, 142, 143, 144, 145, 146, 147, 148, 44, 45, 46, 149, 150, 151, 152, 153, 154, 155, 184, 185, 186, 187, 188, 189, 190, 191, 192, 193, 194, 195, 196, 197, 198, 199, 200, 201, 202, 203, 204, 205, 206, 207, 208, 209, 210, 211, 223, 224, 225, 226, 227, 228, 229, 230, 231, 212, 213, 214, 215, 216, 217, 218, 219, 220, 221, 222, 232] (by decide +kernel) (by decide +kernel)
set_option maxRecDepth 20000 in
theorem gX6_ticks_X6_letLettersWork : GoodIn wsX6_ticks (wsV RX6 140 RX6 yX6_letLettersWork wsX6_letLettersWork) := goodIn_app (goodIn_of _ (by decide +kernel)) ggX6_ticks_X6_letLettersWork
set_option maxRecDepth 20000 in
theorem ggX6_ticks_X6_endTick : GoodIn wsX6_ticks wsX6_endTick := goodIn_r _ [159, 11, 2, 12, 13, 14, 5, 15, 16, 160, 161, 162, 20, 163, 27, 28, 164, 165, 166, 167, 25, 66, 67, 168, 113, 114, 115, 116, 117, 118, 119, 120, 121, 122, 31, 32, 33, 34, 35, 36, 169, 170, 171, 172, 63, 173, 174, 175, 176, 23, 64, 184, 185, 186, 187, 188, 189, 190, 191, 192, 193, 194, 195, 196, 197, 198, 199, 200, 201, 202, 203, 204, 205, 206, 207, 208, 209, 210, 211, 215, 216, 217, 218, 219, 220, 221, 222, 232, 212, 213, 214] (by decide +kernel) (by decide +kernel)
set_option maxRecDepth 20000 in
theorem gX6_ticks_X6_endTick : GoodIn wsX6_ticks (wsV RX6 143 RX6 yX6_endTick wsX6_endTick) := goodIn_app (goodIn_of _ (by decide +kernel)) ggX6_ticks_X6_endTick
set_option maxRecDepth 20000 in
theorem ggX6_ticks_X6_noteAllWhole : GoodIn wsX6_ticks wsX6_noteAllWhole := goodIn_r _ [180, 181, 182, 11, 2, 12, 13, 14, 5, 15, 16, 183, 170, 171, 20, 172, 63, 173, 174, 175, 176, 23, 64, 184, 185, 186, 187, 188, 189, 190, 191, 192, 193, 194, 195, 196, 197, 198, 199, 200, 201, 202, 203, 204, 205, 206, 207, 208, 209, 210, 211, 212, 213, 214] (by decide +kernel) (by decide +kernel)
set_option maxRecDepth 20000 in
theorem gX6_ticks_X6_noteAllWhole : GoodIn wsX6_ticks (wsV RX6 146 RX6 yX6_noteAllWhole wsX6_noteAllWhole) := goodIn_app (goodIn_of _ (by decide +kernel)) ggX6_ticks_X6_noteAllWhole
theorem dX6_ticks_0 : decode cX6_ticks 0 = .ok (.iload_n 1, 1) := by decide +kernel
theorem dX6_ticks_1 : decode cX6_ticks 1 = .ok (.iconst 1, 1) := by decide +kernel
theorem dX6_ticks_2 : decode cX6_ticks 2 = .ok (.sipush 200, 3) := by decide +kernel
theorem dX6_ticks_5 : decode cX6_ticks 5 = .ok (.invokestatic 49, 3) := by decide +kernel
theorem dX6_ticks_8 : decode cX6_ticks 8 = .ok (.ifCond .eq 14, 3) := by decide +kernel
theorem dX6_ticks_11 : decode cX6_ticks 11 = .ok (.iload_n 1, 1) := by decide +kernel
theorem dX6_ticks_12 : decode cX6_ticks 12 = .ok (.ldc 133, 2) := by decide +kernel
theorem dX6_ticks_14 : decode cX6_ticks 14 = .ok (.aload_n 0, 1) := by decide +kernel
theorem dX6_ticks_15 : decode cX6_ticks 15 = .ok (.getfield 75, 3) := by decide +kernel
theorem dX6_ticks_18 : decode cX6_ticks 18 = .ok (.isub, 1) := by decide +kernel
theorem dX6_ticks_19 : decode cX6_ticks 19 = .ok (.if_icmp .le 5, 3) := by decide +kernel
theorem dX6_ticks_22 : decode cX6_ticks 22 = .ok (.iconst (-1), 1) := by decide +kernel
theorem dX6_ticks_23 : decode cX6_ticks 23 = .ok (.ireturn, 1) := by decide +kernel
theorem dX6_ticks_24 : decode cX6_ticks 24 = .ok (.iconst 0, 1) := by decide +kernel
theorem dX6_ticks_25 : decode cX6_ticks 25 = .ok (.istore_n 2, 1) := by decide +kernel
theorem dX6_ticks_26 : decode cX6_ticks 26 = .ok (.iload_n 2, 1) := by decide +kernel
theorem dX6_ticks_27 : decode cX6_ticks 27 = .ok (.iload_n 1, 1) := by decide +kernel
theorem dX6_ticks_28 : decode cX6_ticks 28 = .ok (.if_icmp .ge 39, 3) := by decide +kernel
theorem dX6_ticks_31 : decode cX6_ticks 31 = .ok (.aload_n 0, 1) := by decide +kernel
theorem dX6_ticks_32 : decode cX6_ticks 32 = .ok (.invokevirtual 134, 3) := by decide +kernel
theorem dX6_ticks_35 : decode cX6_ticks 35 = .ok (.aload_n 0, 1) := by decide +kernel
theorem dX6_ticks_36 : decode cX6_ticks 36 = .ok (.invokevirtual 137, 3) := by decide +kernel
theorem dX6_ticks_39 : decode cX6_ticks 39 = .ok (.aload_n 0, 1) := by decide +kernel
theorem dX6_ticks_40 : decode cX6_ticks 40 = .ok (.invokevirtual 140, 3) := by decide +kernel
theorem dX6_ticks_43 : decode cX6_ticks 43 = .ok (.aload_n 0, 1) := by decide +kernel
theorem dX6_ticks_44 : decode cX6_ticks 44 = .ok (.invokevirtual 143, 3) := by decide +kernel
theorem dX6_ticks_47 : decode cX6_ticks 47 = .ok (.aload_n 0, 1) := by decide +kernel
theorem dX6_ticks_48 : decode cX6_ticks 48 = .ok (.invokevirtual 146, 3) := by decide +kernel
theorem dX6_ticks_51 : decode cX6_ticks 51 = .ok (.aload_n 0, 1) := by decide +kernel
theorem dX6_ticks_52 : decode cX6_ticks 52 = .ok (.dup, 1) := by decide +kernel
theorem dX6_ticks_53 : decode cX6_ticks 53 = .ok (.getfield 75, 3) := by decide +kernel
theorem dX6_ticks_56 : decode cX6_ticks 56 = .ok (.iconst 1, 1) := by decide +kernel
theorem dX6_ticks_57 : decode cX6_ticks 57 = .ok (.iadd, 1) := by decide +kernel
theorem dX6_ticks_58 : decode cX6_ticks 58 = .ok (.putfield 75, 3) := by decide +kernel
theorem dX6_ticks_61 : decode cX6_ticks 61 = .ok (.iinc 2 1, 3) := by decide +kernel
theorem dX6_ticks_64 : decode cX6_ticks 64 = .ok (.goto (-38), 3) := by decide +kernel
theorem dX6_ticks_67 : decode cX6_ticks 67 = .ok (.aload_n 0, 1) := by decide +kernel
theorem dX6_ticks_68 : decode cX6_ticks 68 = .ok (.getfield 75, 3) := by decide +kernel
theorem dX6_ticks_71 : decode cX6_ticks 71 = .ok (.ireturn, 1) := by decide +kernel
set_option maxRecDepth 20000 in
theorem ggX6_machineOf_X6_machineAt : GoodIn wsX6_machineOf wsX6_machineAt := goodIn_r _ [5, 6, 7, 58, 59, 60, 61, 62, 63, 64, 65, 66, 67] (by decide +kernel) (by decide +kernel)
set_option maxRecDepth 20000 in
theorem gX6_machineOf_X6_machineAt : GoodIn wsX6_machineOf (wsV RX6 84 RX6 yX6_machineAt wsX6_machineAt) := goodIn_app (goodIn_of _ (by decide +kernel)) ggX6_machineOf_X6_machineAt
set_option maxRecDepth 20000 in
theorem ggX6_machineOf_X0_maskOfNth : GoodIn wsX6_machineOf wsX0_maskOfNth := goodIn_r _ [12, 13, 14, 15, 16, 11, 17, 68, 69, 70] (by decide +kernel) (by decide +kernel)
set_option maxRecDepth 20000 in
theorem gX6_machineOf_X0_maskOfNth : GoodIn wsX6_machineOf (wsV RX6 149 RX0 yX0_maskOfNth wsX0_maskOfNth) := goodIn_app (goodIn_of _ (by decide +kernel)) ggX6_machineOf_X0_maskOfNth
set_option maxRecDepth 20000 in
theorem ggX6_machineOf_X4_answer : GoodIn wsX6_machineOf wsX4_answer := goodIn_r _ [22, 23, 24, 25, 26, 27, 28, 29, 30, 31, 32, 33, 34, 35, 36, 37, 38, 21, 39, 40, 41, 42, 43, 44, 45, 46, 47, 48, 49, 50, 51, 52, 53, 54, 55, 56, 57, 68, 69, 70, 71, 72, 73, 74] (by decide +kernel) (by decide +kernel)
set_option maxRecDepth 20000 in
theorem gX6_machineOf_X4_answer : GoodIn wsX6_machineOf (wsV RX6 153 RX4 yX4_answer wsX4_answer) := goodIn_app (goodIn_of _ (by decide +kernel)) ggX6_machineOf_X4_answer
theorem dX6_machineOf_0 : decode cX6_machineOf 0 = .ok (.aload_n 0, 1) := by decide +kernel
theorem dX6_machineOf_1 : decode cX6_machineOf 1 = .ok (.iload_n 1, 1) := by decide +kernel
theorem dX6_machineOf_2 : decode cX6_machineOf 2 = .ok (.invokevirtual 84, 3) := by decide +kernel
theorem dX6_machineOf_5 : decode cX6_machineOf 5 = .ok (.astore_n 3, 1) := by decide +kernel
theorem dX6_machineOf_6 : decode cX6_machineOf 6 = .ok (.aload_n 3, 1) := by decide +kernel
theorem dX6_machineOf_7 : decode cX6_machineOf 7 = .ok (.ifnonnull 5, 3) := by decide +kernel
theorem dX6_machineOf_10 : decode cX6_machineOf 10 = .ok (.iconst (-1), 1) := by decide +kernel
theorem dX6_machineOf_11 : decode cX6_machineOf 11 = .ok (.ireturn, 1) := by decide +kernel
theorem dX6_machineOf_12 : decode cX6_machineOf 12 = .ok (.iload_n 2, 1) := by decide +kernel
theorem dX6_machineOf_13 : decode cX6_machineOf 13 = .ok (.bipush 100, 2) := by decide +kernel
theorem dX6_machineOf_15 : decode cX6_machineOf 15 = .ok (.if_icmp .lt 15, 3) := by decide +kernel
theorem dX6_machineOf_18 : decode cX6_machineOf 18 = .ok (.aload_n 3, 1) := by decide +kernel
theorem dX6_machineOf_19 : decode cX6_machineOf 19 = .ok (.getfield 109, 3) := by decide +kernel
theorem dX6_machineOf_22 : decode cX6_machineOf 22 = .ok (.iload_n 2, 1) := by decide +kernel
theorem dX6_machineOf_23 : decode cX6_machineOf 23 = .ok (.bipush 100, 2) := by decide +kernel
end
section
theorem dX6_machineOf_25 : decode cX6_machineOf 25 = .ok (.isub, 1) := by decide +kernel
theorem dX6_machineOf_26 : decode cX6_machineOf 26 = .ok (.invokevirtual 149, 3) := by decide +kernel
theorem dX6_machineOf_29 : decode cX6_machineOf 29 = .ok (.ireturn, 1) := by decide +kernel
theorem dX6_machineOf_30 : decode cX6_machineOf 30 = .ok (.aload_n 3, 1) := by decide +kernel
theorem dX6_machineOf_31 : decode cX6_machineOf 31 = .ok (.iload_n 2, 1) := by decide +kernel
theorem dX6_machineOf_32 : decode cX6_machineOf 32 = .ok (.invokevirtual 153, 3) := by decide +kernel
theorem dX6_machineOf_35 : decode cX6_machineOf 35 = .ok (.ireturn, 1) := by decide +kernel
set_option maxRecDepth 20000 in
theorem ggX6_data_X6_machineAt : GoodIn wsX6_data wsX6_machineAt := goodIn_r _ [5, 6, 7, 37, 38, 39, 40, 41, 42, 43, 44, 45, 46] (by decide +kernel) (by decide +kernel)
set_option maxRecDepth 20000 in
theorem gX6_data_X6_machineAt : GoodIn wsX6_data (wsV RX6 84 RX6 yX6_machineAt wsX6_machineAt) := goodIn_app (goodIn_of _ (by decide +kernel)) ggX6_data_X6_machineAt
set_option maxRecDepth 20000 in
theorem ggX6_data_X0_dataOfNth : GoodIn wsX6_data wsX0_dataOfNth := goodIn_r _ [12, 13, 14, 15, 16, 11, 17, 18, 47, 48, 49] (by decide +kernel) (by decide +kernel)
set_option maxRecDepth 20000 in
theorem gX6_data_X0_dataOfNth : GoodIn wsX6_data (wsV RX6 156 RX0 yX0_dataOfNth wsX0_dataOfNth) := goodIn_app (goodIn_of _ (by decide +kernel)) ggX6_data_X0_dataOfNth
theorem dX6_data_0 : decode cX6_data 0 = .ok (.aload_n 0, 1) := by decide +kernel
theorem dX6_data_1 : decode cX6_data 1 = .ok (.iload_n 1, 1) := by decide +kernel
theorem dX6_data_2 : decode cX6_data 2 = .ok (.invokevirtual 84, 3) := by decide +kernel
theorem dX6_data_5 : decode cX6_data 5 = .ok (.astore_n 3, 1) := by decide +kernel
theorem dX6_data_6 : decode cX6_data 6 = .ok (.aload_n 3, 1) := by decide +kernel
theorem dX6_data_7 : decode cX6_data 7 = .ok (.ifnonnull 7, 3) := by decide +kernel
theorem dX6_data_10 : decode cX6_data 10 = .ok (.iconst 0, 1) := by decide +kernel
theorem dX6_data_11 : decode cX6_data 11 = .ok (.goto 11, 3) := by decide +kernel
theorem dX6_data_14 : decode cX6_data 14 = .ok (.aload_n 3, 1) := by decide +kernel
theorem dX6_data_15 : decode cX6_data 15 = .ok (.getfield 109, 3) := by decide +kernel
theorem dX6_data_18 : decode cX6_data 18 = .ok (.iload_n 2, 1) := by decide +kernel
theorem dX6_data_19 : decode cX6_data 19 = .ok (.invokevirtual 156, 3) := by decide +kernel
theorem dX6_data_22 : decode cX6_data 22 = .ok (.ireturn, 1) := by decide +kernel
set_option maxRecDepth 20000 in
theorem ggX6_sum_X6_machineAt : GoodIn wsX6_sum wsX6_machineAt := goodIn_r _ [5, 6, 7, 26, 27, 28, 29, 30, 31, 32, 33, 34, 35] (by decide +kernel) (by decide +kernel)
set_option maxRecDepth 20000 in
theorem gX6_sum_X6_machineAt : GoodIn wsX6_sum (wsV RX6 84 RX6 yX6_machineAt wsX6_machineAt) := goodIn_app (goodIn_of _ (by decide +kernel)) ggX6_sum_X6_machineAt
theorem dX6_sum_0 : decode cX6_sum 0 = .ok (.aload_n 0, 1) := by decide +kernel
theorem dX6_sum_1 : decode cX6_sum 1 = .ok (.iload_n 1, 1) := by decide +kernel
theorem dX6_sum_2 : decode cX6_sum 2 = .ok (.invokevirtual 84, 3) := by decide +kernel
theorem dX6_sum_5 : decode cX6_sum 5 = .ok (.astore_n 2, 1) := by decide +kernel
theorem dX6_sum_6 : decode cX6_sum 6 = .ok (.aload_n 2, 1) := by decide +kernel
theorem dX6_sum_7 : decode cX6_sum 7 = .ok (.ifnonnull 7, 3) := by decide +kernel
theorem dX6_sum_10 : decode cX6_sum 10 = .ok (.iconst 0, 1) := by decide +kernel
theorem dX6_sum_11 : decode cX6_sum 11 = .ok (.goto 7, 3) := by decide +kernel
theorem dX6_sum_14 : decode cX6_sum 14 = .ok (.aload_n 2, 1) := by decide +kernel
theorem dX6_sum_15 : decode cX6_sum 15 = .ok (.getfield 159, 3) := by decide +kernel
theorem dX6_sum_18 : decode cX6_sum 18 = .ok (.ireturn, 1) := by decide +kernel
set_option maxRecDepth 20000 in
theorem ggX6_about_X6_lettersSent : GoodIn wsX6_about wsX6_lettersSent := goodIn_r _ [9, 1, 10, 11, 12, 8, 13, 14, 20, 21, 22, 23, 24, 25, 26, 27, 28, 29, 30, 31, 32, 33, 34, 35, 36, 37, 38, 39, 40, 41, 42, 43, 44, 45, 46, 47] (by decide +kernel) (by decide +kernel)
set_option maxRecDepth 20000 in
theorem gX6_about_X6_lettersSent : GoodIn wsX6_about (wsV RX6 162 RX6 yX6_lettersSent wsX6_lettersSent) := goodIn_app (goodIn_of _ (by decide +kernel)) ggX6_about_X6_lettersSent
set_option maxRecDepth 20000 in
theorem ggX6_about_X6_runnersOfGreatest : GoodIn wsX6_about wsX6_runnersOfGreatest := goodIn_r _ [18, 1, 19, 10, 11, 12, 8, 13, 14, 20, 21, 22, 23, 24, 25, 26, 27, 28, 29, 30, 31, 32, 33, 34, 35, 36, 37, 38, 39, 40, 41, 42, 43, 44, 45, 46, 47] (by decide +kernel) (by decide +kernel)
set_option maxRecDepth 20000 in
theorem gX6_about_X6_runnersOfGreatest : GoodIn wsX6_about (wsV RX6 166 RX6 yX6_runnersOfGreatest wsX6_runnersOfGreatest) := goodIn_app (goodIn_of _ (by decide +kernel)) ggX6_about_X6_runnersOfGreatest
theorem dX6_about_0 : decode cX6_about 0 = .ok (.iload_n 1, 1) := by decide +kernel
theorem dX6_about_1 : decode cX6_about 1 = .ok (.tableswitch 69 0 5 #[39, 44, 49, 54, 59, 64], 39) := by decide +kernel
theorem dX6_about_40 : decode cX6_about 40 = .ok (.aload_n 0, 1) := by decide +kernel
theorem dX6_about_41 : decode cX6_about 41 = .ok (.getfield 53, 3) := by decide +kernel
theorem dX6_about_44 : decode cX6_about 44 = .ok (.ireturn, 1) := by decide +kernel
theorem dX6_about_45 : decode cX6_about 45 = .ok (.aload_n 0, 1) := by decide +kernel
theorem dX6_about_46 : decode cX6_about 46 = .ok (.getfield 75, 3) := by decide +kernel
theorem dX6_about_49 : decode cX6_about 49 = .ok (.ireturn, 1) := by decide +kernel
theorem dX6_about_50 : decode cX6_about 50 = .ok (.aload_n 0, 1) := by decide +kernel
theorem dX6_about_51 : decode cX6_about 51 = .ok (.invokevirtual 162, 3) := by decide +kernel
theorem dX6_about_54 : decode cX6_about 54 = .ok (.ireturn, 1) := by decide +kernel
theorem dX6_about_55 : decode cX6_about 55 = .ok (.aload_n 0, 1) := by decide +kernel
theorem dX6_about_56 : decode cX6_about 56 = .ok (.invokevirtual 166, 3) := by decide +kernel
theorem dX6_about_59 : decode cX6_about 59 = .ok (.ireturn, 1) := by decide +kernel
theorem dX6_about_60 : decode cX6_about 60 = .ok (.aload_n 0, 1) := by decide +kernel
theorem dX6_about_61 : decode cX6_about 61 = .ok (.getfield 92, 3) := by decide +kernel
theorem dX6_about_64 : decode cX6_about 64 = .ok (.ireturn, 1) := by decide +kernel
theorem dX6_about_65 : decode cX6_about 65 = .ok (.aload_n 0, 1) := by decide +kernel
theorem dX6_about_66 : decode cX6_about 66 = .ok (.getfield 42, 3) := by decide +kernel
theorem dX6_about_69 : decode cX6_about 69 = .ok (.ireturn, 1) := by decide +kernel
theorem dX6_about_70 : decode cX6_about 70 = .ok (.iconst (-1), 1) := by decide +kernel
theorem dX6_about_71 : decode cX6_about 71 = .ok (.ireturn, 1) := by decide +kernel
theorem dX6_within_0 : decode cX6_within 0 = .ok (.iload_n 0, 1) := by decide +kernel
theorem dX6_within_1 : decode cX6_within 1 = .ok (.iload_n 1, 1) := by decide +kernel
theorem dX6_within_2 : decode cX6_within 2 = .ok (.if_icmp .lt 12, 3) := by decide +kernel
theorem dX6_within_5 : decode cX6_within 5 = .ok (.iload_n 0, 1) := by decide +kernel
theorem dX6_within_6 : decode cX6_within 6 = .ok (.iload_n 2, 1) := by decide +kernel
theorem dX6_within_7 : decode cX6_within 7 = .ok (.if_icmp .gt 7, 3) := by decide +kernel
theorem dX6_within_10 : decode cX6_within 10 = .ok (.iconst 1, 1) := by decide +kernel
theorem dX6_within_11 : decode cX6_within 11 = .ok (.goto 4, 3) := by decide +kernel
theorem dX6_within_14 : decode cX6_within 14 = .ok (.iconst 0, 1) := by decide +kernel
theorem dX6_within_15 : decode cX6_within 15 = .ok (.ireturn, 1) := by decide +kernel
theorem dX6_machineAt_0 : decode cX6_machineAt 0 = .ok (.iload_n 1, 1) := by decide +kernel
theorem dX6_machineAt_1 : decode cX6_machineAt 1 = .ok (.ifCond .lt 20, 3) := by decide +kernel
theorem dX6_machineAt_4 : decode cX6_machineAt 4 = .ok (.iload_n 1, 1) := by decide +kernel
theorem dX6_machineAt_5 : decode cX6_machineAt 5 = .ok (.aload_n 0, 1) := by decide +kernel
theorem dX6_machineAt_6 : decode cX6_machineAt 6 = .ok (.getfield 53, 3) := by decide +kernel
theorem dX6_machineAt_9 : decode cX6_machineAt 9 = .ok (.if_icmp .ge 12, 3) := by decide +kernel
theorem dX6_machineAt_12 : decode cX6_machineAt 12 = .ok (.iload_n 1, 1) := by decide +kernel
theorem dX6_machineAt_13 : decode cX6_machineAt 13 = .ok (.aload_n 0, 1) := by decide +kernel
theorem dX6_machineAt_14 : decode cX6_machineAt 14 = .ok (.getfield 25, 3) := by decide +kernel
theorem dX6_machineAt_17 : decode cX6_machineAt 17 = .ok (.arraylength, 1) := by decide +kernel
theorem dX6_machineAt_18 : decode cX6_machineAt 18 = .ok (.if_icmp .lt 5, 3) := by decide +kernel
theorem dX6_machineAt_21 : decode cX6_machineAt 21 = .ok (.aconst_null, 1) := by decide +kernel
theorem dX6_machineAt_22 : decode cX6_machineAt 22 = .ok (.areturn, 1) := by decide +kernel
theorem dX6_machineAt_23 : decode cX6_machineAt 23 = .ok (.aload_n 0, 1) := by decide +kernel
theorem dX6_machineAt_24 : decode cX6_machineAt 24 = .ok (.getfield 25, 3) := by decide +kernel
theorem dX6_machineAt_27 : decode cX6_machineAt 27 = .ok (.iload_n 1, 1) := by decide +kernel
theorem dX6_machineAt_28 : decode cX6_machineAt 28 = .ok (.aaload, 1) := by decide +kernel
theorem dX6_machineAt_29 : decode cX6_machineAt 29 = .ok (.areturn, 1) := by decide +kernel
set_option maxRecDepth 20000 in
theorem ggX6_pairOf_X6_within : GoodIn wsX6_pairOf wsX6_within := goodIn_r _ [5] (by decide +kernel) (by decide +kernel)
set_option maxRecDepth 20000 in
theorem gX6_pairOf_X6_within : GoodIn wsX6_pairOf (va_wsS RX6 49 yX6_within wsX6_within) := goodIn_app (goodIn_of _ (by decide +kernel)) ggX6_pairOf_X6_within
theorem dX6_pairOf_0 : decode cX6_pairOf 0 = .ok (.iload_n 1, 1) := by decide +kernel
theorem dX6_pairOf_1 : decode cX6_pairOf 1 = .ok (.bipush 12, 2) := by decide +kernel
theorem dX6_pairOf_3 : decode cX6_pairOf 3 = .ok (.imul, 1) := by decide +kernel
theorem dX6_pairOf_4 : decode cX6_pairOf 4 = .ok (.iload_n 2, 1) := by decide +kernel
theorem dX6_pairOf_5 : decode cX6_pairOf 5 = .ok (.iadd, 1) := by decide +kernel
theorem dX6_pairOf_6 : decode cX6_pairOf 6 = .ok (.istore_n 3, 1) := by decide +kernel
theorem dX6_pairOf_7 : decode cX6_pairOf 7 = .ok (.iload_n 3, 1) := by decide +kernel
theorem dX6_pairOf_8 : decode cX6_pairOf 8 = .ok (.iconst 0, 1) := by decide +kernel
theorem dX6_pairOf_9 : decode cX6_pairOf 9 = .ok (.aload_n 0, 1) := by decide +kernel
theorem dX6_pairOf_10 : decode cX6_pairOf 10 = .ok (.getfield 29, 3) := by decide +kernel
theorem dX6_pairOf_13 : decode cX6_pairOf 13 = .ok (.arraylength, 1) := by decide +kernel
theorem dX6_pairOf_14 : decode cX6_pairOf 14 = .ok (.iconst 1, 1) := by decide +kernel
theorem dX6_pairOf_15 : decode cX6_pairOf 15 = .ok (.isub, 1) := by decide +kernel
theorem dX6_pairOf_16 : decode cX6_pairOf 16 = .ok (.invokestatic 49, 3) := by decide +kernel
theorem dX6_pairOf_19 : decode cX6_pairOf 19 = .ok (.ifCond .eq 7, 3) := by decide +kernel
theorem dX6_pairOf_22 : decode cX6_pairOf 22 = .ok (.iload_n 3, 1) := by decide +kernel
theorem dX6_pairOf_23 : decode cX6_pairOf 23 = .ok (.goto 4, 3) := by decide +kernel
theorem dX6_pairOf_26 : decode cX6_pairOf 26 = .ok (.iconst (-1), 1) := by decide +kernel
theorem dX6_pairOf_27 : decode cX6_pairOf 27 = .ok (.ireturn, 1) := by decide +kernel
set_option maxRecDepth 20000 in
theorem ggX6_oddsBetween_X6_pairOf : GoodIn wsX6_oddsBetween wsX6_pairOf := goodIn_r _ [6, 1, 7, 8, 5, 9, 10, 11, 12, 13, 14, 15, 16, 17, 18, 19] (by decide +kernel) (by decide +kernel)
set_option maxRecDepth 20000 in
theorem gX6_oddsBetween_X6_pairOf : GoodIn wsX6_oddsBetween (wsV RX6 88 RX6 yX6_pairOf wsX6_pairOf) := goodIn_app (goodIn_of _ (by decide +kernel)) ggX6_oddsBetween_X6_pairOf
theorem dX6_oddsBetween_0 : decode cX6_oddsBetween 0 = .ok (.aload_n 0, 1) := by decide +kernel
theorem dX6_oddsBetween_1 : decode cX6_oddsBetween 1 = .ok (.iload_n 1, 1) := by decide +kernel
theorem dX6_oddsBetween_2 : decode cX6_oddsBetween 2 = .ok (.iload_n 2, 1) := by decide +kernel
theorem dX6_oddsBetween_3 : decode cX6_oddsBetween 3 = .ok (.invokevirtual 88, 3) := by decide +kernel
theorem dX6_oddsBetween_6 : decode cX6_oddsBetween 6 = .ok (.istore_n 3, 1) := by decide +kernel
theorem dX6_oddsBetween_7 : decode cX6_oddsBetween 7 = .ok (.iload_n 3, 1) := by decide +kernel
theorem dX6_oddsBetween_8 : decode cX6_oddsBetween 8 = .ok (.iconst (-1), 1) := by decide +kernel
theorem dX6_oddsBetween_9 : decode cX6_oddsBetween 9 = .ok (.if_icmp .ne 7, 3) := by decide +kernel
theorem dX6_oddsBetween_12 : decode cX6_oddsBetween 12 = .ok (.iconst (-1), 1) := by decide +kernel
theorem dX6_oddsBetween_13 : decode cX6_oddsBetween 13 = .ok (.goto 9, 3) := by decide +kernel
theorem dX6_oddsBetween_16 : decode cX6_oddsBetween 16 = .ok (.aload_n 0, 1) := by decide +kernel
theorem dX6_oddsBetween_17 : decode cX6_oddsBetween 17 = .ok (.getfield 29, 3) := by decide +kernel
theorem dX6_oddsBetween_20 : decode cX6_oddsBetween 20 = .ok (.iload_n 3, 1) := by decide +kernel
theorem dX6_oddsBetween_21 : decode cX6_oddsBetween 21 = .ok (.iaload, 1) := by decide +kernel
theorem dX6_oddsBetween_22 : decode cX6_oddsBetween 22 = .ok (.ireturn, 1) := by decide +kernel
set_option maxRecDepth 20000 in
theorem ggX6_sendLetters_X6_machineAt : GoodIn wsX6_sendLetters wsX6_machineAt := goodIn_r _ [7, 1, 8, 60, 61, 62, 63, 64, 65, 66, 67, 68, 69] (by decide +kernel) (by decide +kernel)
set_option maxRecDepth 20000 in
theorem gX6_sendLetters_X6_machineAt : GoodIn wsX6_sendLetters (wsV RX6 84 RX6 yX6_machineAt wsX6_machineAt) := goodIn_app (goodIn_of _ (by decide +kernel)) ggX6_sendLetters_X6_machineAt
set_option maxRecDepth 20000 in
theorem ggX6_sendLetters_X4_send : GoodIn wsX6_sendLetters wsX4_send := goodIn_r _ [13, 14, 15, 16, 17, 18, 19, 20, 21, 22, 23, 24, 25, 26, 27, 28, 29, 30, 31, 32, 33, 34, 35, 36, 37, 38, 39, 40, 41, 42, 43, 44, 45, 46, 47, 48, 49, 50, 51, 52, 53, 12, 54, 55, 56, 57, 58, 59, 70, 71, 72, 73, 74, 75, 76, 77, 78, 79, 80, 81, 82, 83, 84, 85, 86, 87, 88, 89, 90, 91, 92, 93, 94, 95, 96, 97, 98, 99, 100, 101, 102, 103, 104, 105, 106, 107, 108] (by decide +kernel) (by decide +kernel)
set_option maxRecDepth 20000 in
theorem gX6_sendLetters_X4_send : GoodIn wsX6_sendLetters (wsV RX6 169 RX4 yX4_send wsX4_send) := goodIn_app (goodIn_of _ (by decide +kernel)) ggX6_sendLetters_X4_send
theorem dX6_sendLetters_0 : decode cX6_sendLetters 0 = .ok (.iconst 0, 1) := by decide +kernel
theorem dX6_sendLetters_1 : decode cX6_sendLetters 1 = .ok (.istore_n 1, 1) := by decide +kernel
theorem dX6_sendLetters_2 : decode cX6_sendLetters 2 = .ok (.iload_n 1, 1) := by decide +kernel
theorem dX6_sendLetters_3 : decode cX6_sendLetters 3 = .ok (.aload_n 0, 1) := by decide +kernel
theorem dX6_sendLetters_4 : decode cX6_sendLetters 4 = .ok (.getfield 53, 3) := by decide +kernel
theorem dX6_sendLetters_7 : decode cX6_sendLetters 7 = .ok (.if_icmp .ge 27, 3) := by decide +kernel
theorem dX6_sendLetters_10 : decode cX6_sendLetters 10 = .ok (.aload_n 0, 1) := by decide +kernel
theorem dX6_sendLetters_11 : decode cX6_sendLetters 11 = .ok (.iload_n 1, 1) := by decide +kernel
theorem dX6_sendLetters_12 : decode cX6_sendLetters 12 = .ok (.invokevirtual 84, 3) := by decide +kernel
theorem dX6_sendLetters_15 : decode cX6_sendLetters 15 = .ok (.astore_n 2, 1) := by decide +kernel
theorem dX6_sendLetters_16 : decode cX6_sendLetters 16 = .ok (.aload_n 2, 1) := by decide +kernel
theorem dX6_sendLetters_17 : decode cX6_sendLetters 17 = .ok (.ifnull 11, 3) := by decide +kernel
theorem dX6_sendLetters_20 : decode cX6_sendLetters 20 = .ok (.aload_n 2, 1) := by decide +kernel
theorem dX6_sendLetters_21 : decode cX6_sendLetters 21 = .ok (.aload_n 0, 1) := by decide +kernel
theorem dX6_sendLetters_22 : decode cX6_sendLetters 22 = .ok (.getfield 75, 3) := by decide +kernel
theorem dX6_sendLetters_25 : decode cX6_sendLetters 25 = .ok (.invokevirtual 169, 3) := by decide +kernel
theorem dX6_sendLetters_28 : decode cX6_sendLetters 28 = .ok (.iinc 1 1, 3) := by decide +kernel
theorem dX6_sendLetters_31 : decode cX6_sendLetters 31 = .ok (.goto (-29), 3) := by decide +kernel
theorem dX6_sendLetters_34 : decode cX6_sendLetters 34 = .ok (.return_, 1) := by decide +kernel
set_option maxRecDepth 20000 in
theorem ggX6_hearLetters_X6_machineAt : GoodIn wsX6_hearLetters wsX6_machineAt := goodIn_r _ [6, 1, 7, 38, 39, 40, 41, 42, 43, 44, 45, 46, 47] (by decide +kernel) (by decide +kernel)
set_option maxRecDepth 20000 in
theorem gX6_hearLetters_X6_machineAt : GoodIn wsX6_hearLetters (wsV RX6 84 RX6 yX6_machineAt wsX6_machineAt) := goodIn_app (goodIn_of _ (by decide +kernel)) ggX6_hearLetters_X6_machineAt
set_option maxRecDepth 20000 in
theorem ggX6_hearLetters_X3_isSent : GoodIn wsX6_hearLetters wsX3_isSent := goodIn_r _ [12, 13, 66, 67, 68, 69, 70, 71, 72, 73, 74] (by decide +kernel) (by decide +kernel)
set_option maxRecDepth 20000 in
theorem gX6_hearLetters_X3_isSent : GoodIn wsX6_hearLetters (wsV RX6 179 RX3 yX3_isSent wsX3_isSent) := goodIn_app (goodIn_of _ (by decide +kernel)) ggX6_hearLetters_X3_isSent
set_option maxRecDepth 20000 in
theorem ggX6_hearLetters_X6_listen : GoodIn wsX6_hearLetters wsX6_listen := goodIn_r _ [17, 1, 18, 2, 3, 4, 5, 6, 7, 19, 20, 21, 22, 23, 24, 25, 26, 27, 28, 29, 30, 8, 9, 10, 11, 12, 13, 31, 32, 33, 34, 35, 36, 37, 38, 39, 40, 41, 42, 43, 44, 45, 46, 47, 48, 49, 50, 51, 52, 53, 54, 55, 56, 57, 58, 59, 60, 61, 62, 63, 64, 65, 66, 67, 68, 69, 70, 71, 72, 73, 74, 75] (by decide +kernel) (by decide +kernel)
set_option maxRecDepth 20000 in
theorem gX6_hearLetters_X6_listen : GoodIn wsX6_hearLetters (wsV RX6 185 RX6 yX6_listen wsX6_listen) := goodIn_app (goodIn_of _ (by decide +kernel)) ggX6_hearLetters_X6_listen
theorem dX6_hearLetters_0 : decode cX6_hearLetters 0 = .ok (.iconst 0, 1) := by decide +kernel
theorem dX6_hearLetters_1 : decode cX6_hearLetters 1 = .ok (.istore_n 1, 1) := by decide +kernel
theorem dX6_hearLetters_2 : decode cX6_hearLetters 2 = .ok (.iload_n 1, 1) := by decide +kernel
theorem dX6_hearLetters_3 : decode cX6_hearLetters 3 = .ok (.aload_n 0, 1) := by decide +kernel
theorem dX6_hearLetters_4 : decode cX6_hearLetters 4 = .ok (.getfield 53, 3) := by decide +kernel
theorem dX6_hearLetters_7 : decode cX6_hearLetters 7 = .ok (.if_icmp .ge 40, 3) := by decide +kernel
theorem dX6_hearLetters_10 : decode cX6_hearLetters 10 = .ok (.aload_n 0, 1) := by decide +kernel
theorem dX6_hearLetters_11 : decode cX6_hearLetters 11 = .ok (.iload_n 1, 1) := by decide +kernel
theorem dX6_hearLetters_12 : decode cX6_hearLetters 12 = .ok (.invokevirtual 84, 3) := by decide +kernel
theorem dX6_hearLetters_15 : decode cX6_hearLetters 15 = .ok (.astore_n 2, 1) := by decide +kernel
theorem dX6_hearLetters_16 : decode cX6_hearLetters 16 = .ok (.aload_n 2, 1) := by decide +kernel
theorem dX6_hearLetters_17 : decode cX6_hearLetters 17 = .ok (.ifnull 24, 3) := by decide +kernel
theorem dX6_hearLetters_20 : decode cX6_hearLetters 20 = .ok (.aload_n 2, 1) := by decide +kernel
theorem dX6_hearLetters_21 : decode cX6_hearLetters 21 = .ok (.aconst_null, 1) := by decide +kernel
theorem dX6_hearLetters_22 : decode cX6_hearLetters 22 = .ok (.putfield 172, 3) := by decide +kernel
theorem dX6_hearLetters_25 : decode cX6_hearLetters 25 = .ok (.aload_n 2, 1) := by decide +kernel
theorem dX6_hearLetters_26 : decode cX6_hearLetters 26 = .ok (.getfield 176, 3) := by decide +kernel
theorem dX6_hearLetters_29 : decode cX6_hearLetters 29 = .ok (.invokevirtual 179, 3) := by decide +kernel
theorem dX6_hearLetters_32 : decode cX6_hearLetters 32 = .ok (.ifCond .ne 9, 3) := by decide +kernel
theorem dX6_hearLetters_35 : decode cX6_hearLetters 35 = .ok (.aload_n 0, 1) := by decide +kernel
theorem dX6_hearLetters_36 : decode cX6_hearLetters 36 = .ok (.aload_n 2, 1) := by decide +kernel
theorem dX6_hearLetters_37 : decode cX6_hearLetters 37 = .ok (.iload_n 1, 1) := by decide +kernel
theorem dX6_hearLetters_38 : decode cX6_hearLetters 38 = .ok (.invokevirtual 185, 3) := by decide +kernel
theorem dX6_hearLetters_41 : decode cX6_hearLetters 41 = .ok (.iinc 1 1, 3) := by decide +kernel
theorem dX6_hearLetters_44 : decode cX6_hearLetters 44 = .ok (.goto (-42), 3) := by decide +kernel
theorem dX6_hearLetters_47 : decode cX6_hearLetters 47 = .ok (.return_, 1) := by decide +kernel
set_option maxRecDepth 20000 in
theorem ggX6_listen_X6_machineAt : GoodIn wsX6_listen wsX6_machineAt := goodIn_r _ [7, 1, 8, 34, 35, 36, 37, 38, 39, 40, 41, 42, 43] (by decide +kernel) (by decide +kernel)
set_option maxRecDepth 20000 in
theorem gX6_listen_X6_machineAt : GoodIn wsX6_listen (wsV RX6 84 RX6 yX6_machineAt wsX6_machineAt) := goodIn_app (goodIn_of _ (by decide +kernel)) ggX6_listen_X6_machineAt
set_option maxRecDepth 20000 in
theorem ggX6_listen_X6_oddsBetween : GoodIn wsX6_listen wsX6_oddsBetween := goodIn_r _ [12, 13, 14, 15, 16, 6, 17, 18, 19, 20, 34, 35, 36, 37, 38, 39, 40, 41, 42, 43] (by decide +kernel) (by decide +kernel)
set_option maxRecDepth 20000 in
theorem gX6_listen_X6_oddsBetween : GoodIn wsX6_listen (wsV RX6 189 RX6 yX6_oddsBetween wsX6_oddsBetween) := goodIn_app (goodIn_of _ (by decide +kernel)) ggX6_listen_X6_oddsBetween
set_option maxRecDepth 20000 in
theorem ggX6_listen_X3_isSent : GoodIn wsX6_listen wsX3_isSent := goodIn_r _ [25, 26, 62, 63, 64, 65, 66, 67, 68, 69, 70] (by decide +kernel) (by decide +kernel)
set_option maxRecDepth 20000 in
theorem gX6_listen_X3_isSent : GoodIn wsX6_listen (wsV RX6 179 RX3 yX3_isSent wsX3_isSent) := goodIn_app (goodIn_of _ (by decide +kernel)) ggX6_listen_X3_isSent
set_option maxRecDepth 20000 in
theorem ggX6_listen_X1_below : GoodIn wsX6_listen wsX1_below := goodIn_r _ [31, 32, 33, 71] (by decide +kernel) (by decide +kernel)
set_option maxRecDepth 20000 in
theorem gX6_listen_X1_below : GoodIn wsX6_listen (wsV RX6 195 RX1 yX1_below wsX1_below) := goodIn_app (goodIn_of _ (by decide +kernel)) ggX6_listen_X1_below
theorem dX6_listen_0 : decode cX6_listen 0 = .ok (.aconst_null, 1) := by decide +kernel
theorem dX6_listen_1 : decode cX6_listen 1 = .ok (.astore_n 3, 1) := by decide +kernel
theorem dX6_listen_2 : decode cX6_listen 2 = .ok (.iconst (-1), 1) := by decide +kernel
theorem dX6_listen_3 : decode cX6_listen 3 = .ok (.istore 4, 2) := by decide +kernel
theorem dX6_listen_5 : decode cX6_listen 5 = .ok (.iconst 0, 1) := by decide +kernel
theorem dX6_listen_6 : decode cX6_listen 6 = .ok (.istore 5, 2) := by decide +kernel
theorem dX6_listen_8 : decode cX6_listen 8 = .ok (.iconst 0, 1) := by decide +kernel
theorem dX6_listen_9 : decode cX6_listen 9 = .ok (.istore 6, 2) := by decide +kernel
theorem dX6_listen_11 : decode cX6_listen 11 = .ok (.iload 6, 2) := by decide +kernel
theorem dX6_listen_13 : decode cX6_listen 13 = .ok (.aload_n 0, 1) := by decide +kernel
theorem dX6_listen_14 : decode cX6_listen 14 = .ok (.getfield 53, 3) := by decide +kernel
theorem dX6_listen_17 : decode cX6_listen 17 = .ok (.if_icmp .ge 61, 3) := by decide +kernel
theorem dX6_listen_20 : decode cX6_listen 20 = .ok (.aload_n 0, 1) := by decide +kernel
theorem dX6_listen_21 : decode cX6_listen 21 = .ok (.iload 6, 2) := by decide +kernel
theorem dX6_listen_23 : decode cX6_listen 23 = .ok (.invokevirtual 84, 3) := by decide +kernel
theorem dX6_listen_26 : decode cX6_listen 26 = .ok (.astore 7, 2) := by decide +kernel
theorem dX6_listen_28 : decode cX6_listen 28 = .ok (.aload_n 0, 1) := by decide +kernel
theorem dX6_listen_29 : decode cX6_listen 29 = .ok (.iload_n 2, 1) := by decide +kernel
theorem dX6_listen_30 : decode cX6_listen 30 = .ok (.iload 6, 2) := by decide +kernel
theorem dX6_listen_32 : decode cX6_listen 32 = .ok (.invokevirtual 189, 3) := by decide +kernel
theorem dX6_listen_35 : decode cX6_listen 35 = .ok (.istore 8, 2) := by decide +kernel
theorem dX6_listen_37 : decode cX6_listen 37 = .ok (.aload 7, 2) := by decide +kernel
theorem dX6_listen_39 : decode cX6_listen 39 = .ok (.ifnull 33, 3) := by decide +kernel
theorem dX6_listen_42 : decode cX6_listen 42 = .ok (.aload 7, 2) := by decide +kernel
theorem dX6_listen_44 : decode cX6_listen 44 = .ok (.getfield 176, 3) := by decide +kernel
theorem dX6_listen_47 : decode cX6_listen 47 = .ok (.invokevirtual 179, 3) := by decide +kernel
theorem dX6_listen_50 : decode cX6_listen 50 = .ok (.ifCond .eq 22, 3) := by decide +kernel
theorem dX6_listen_53 : decode cX6_listen 53 = .ok (.iload 8, 2) := by decide +kernel
theorem dX6_listen_55 : decode cX6_listen 55 = .ok (.iconst (-1), 1) := by decide +kernel
theorem dX6_listen_56 : decode cX6_listen 56 = .ok (.if_icmp .eq 16, 3) := by decide +kernel
theorem dX6_listen_59 : decode cX6_listen 59 = .ok (.aload 7, 2) := by decide +kernel
theorem dX6_listen_61 : decode cX6_listen 61 = .ok (.getfield 176, 3) := by decide +kernel
theorem dX6_listen_64 : decode cX6_listen 64 = .ok (.astore_n 3, 1) := by decide +kernel
theorem dX6_listen_65 : decode cX6_listen 65 = .ok (.iload 8, 2) := by decide +kernel
theorem dX6_listen_67 : decode cX6_listen 67 = .ok (.istore 4, 2) := by decide +kernel
theorem dX6_listen_69 : decode cX6_listen 69 = .ok (.iinc 5 1, 3) := by decide +kernel
theorem dX6_listen_72 : decode cX6_listen 72 = .ok (.iinc 6 1, 3) := by decide +kernel
theorem dX6_listen_75 : decode cX6_listen 75 = .ok (.goto (-64), 3) := by decide +kernel
theorem dX6_listen_78 : decode cX6_listen 78 = .ok (.iload 5, 2) := by decide +kernel
theorem dX6_listen_80 : decode cX6_listen 80 = .ok (.iconst 1, 1) := by decide +kernel
theorem dX6_listen_81 : decode cX6_listen 81 = .ok (.if_icmp .le 16, 3) := by decide +kernel
theorem dX6_listen_84 : decode cX6_listen 84 = .ok (.aload_n 1, 1) := by decide +kernel
theorem dX6_listen_85 : decode cX6_listen 85 = .ok (.dup, 1) := by decide +kernel
theorem dX6_listen_86 : decode cX6_listen 86 = .ok (.getfield 192, 3) := by decide +kernel
theorem dX6_listen_89 : decode cX6_listen 89 = .ok (.iconst 1, 1) := by decide +kernel
theorem dX6_listen_90 : decode cX6_listen 90 = .ok (.iadd, 1) := by decide +kernel
theorem dX6_listen_91 : decode cX6_listen 91 = .ok (.putfield 192, 3) := by decide +kernel
theorem dX6_listen_94 : decode cX6_listen 94 = .ok (.goto 41, 3) := by decide +kernel
theorem dX6_listen_97 : decode cX6_listen 97 = .ok (.iload 5, 2) := by decide +kernel
theorem dX6_listen_99 : decode cX6_listen 99 = .ok (.iconst 1, 1) := by decide +kernel
theorem dX6_listen_100 : decode cX6_listen 100 = .ok (.if_icmp .ne 30, 3) := by decide +kernel
theorem dX6_listen_103 : decode cX6_listen 103 = .ok (.aload_n 0, 1) := by decide +kernel
theorem dX6_listen_104 : decode cX6_listen 104 = .ok (.getfield 10, 3) := by decide +kernel
theorem dX6_listen_107 : decode cX6_listen 107 = .ok (.bipush 100, 2) := by decide +kernel
theorem dX6_listen_109 : decode cX6_listen 109 = .ok (.invokevirtual 195, 3) := by decide +kernel
theorem dX6_listen_112 : decode cX6_listen 112 = .ok (.iload 4, 2) := by decide +kernel
theorem dX6_listen_114 : decode cX6_listen 114 = .ok (.if_icmp .ge 16, 3) := by decide +kernel
theorem dX6_listen_117 : decode cX6_listen 117 = .ok (.aload_n 1, 1) := by decide +kernel
theorem dX6_listen_118 : decode cX6_listen 118 = .ok (.dup, 1) := by decide +kernel
theorem dX6_listen_119 : decode cX6_listen 119 = .ok (.getfield 198, 3) := by decide +kernel
theorem dX6_listen_122 : decode cX6_listen 122 = .ok (.iconst 1, 1) := by decide +kernel
theorem dX6_listen_123 : decode cX6_listen 123 = .ok (.iadd, 1) := by decide +kernel
theorem dX6_listen_124 : decode cX6_listen 124 = .ok (.putfield 198, 3) := by decide +kernel
theorem dX6_listen_127 : decode cX6_listen 127 = .ok (.goto 8, 3) := by decide +kernel
theorem dX6_listen_130 : decode cX6_listen 130 = .ok (.aload_n 1, 1) := by decide +kernel
theorem dX6_listen_131 : decode cX6_listen 131 = .ok (.aload_n 3, 1) := by decide +kernel
theorem dX6_listen_132 : decode cX6_listen 132 = .ok (.putfield 172, 3) := by decide +kernel
theorem dX6_listen_135 : decode cX6_listen 135 = .ok (.return_, 1) := by decide +kernel
set_option maxRecDepth 20000 in
theorem ggX6_letLettersWork_X6_machineAt : GoodIn wsX6_letLettersWork wsX6_machineAt := goodIn_r _ [7, 1, 8, 92, 93, 94, 95, 96, 97, 98, 99, 100, 101] (by decide +kernel) (by decide +kernel)
set_option maxRecDepth 20000 in
theorem gX6_letLettersWork_X6_machineAt : GoodIn wsX6_letLettersWork (wsV RX6 84 RX6 yX6_machineAt wsX6_machineAt) := goodIn_app (goodIn_of _ (by decide +kernel)) ggX6_letLettersWork_X6_machineAt
set_option maxRecDepth 20000 in
theorem ggX6_letLettersWork_X4_take : GoodIn wsX6_letLettersWork wsX4_take := goodIn_r _ [13, 14, 15, 16, 12, 17, 18, 19, 20, 21, 22, 23, 24, 25, 26, 27, 28, 29, 30, 31, 32, 33, 34, 35, 36, 37, 38, 39, 40, 41, 42, 43, 44, 45, 46, 47, 48, 49, 50, 51, 52, 53, 54, 55, 56, 57, 58, 59, 60, 61, 62, 63, 64, 65, 66, 67, 68, 69, 70, 71, 72, 73, 74, 75, 76, 77, 78, 79, 80, 81, 82, 83, 84, 85, 86, 87, 88, 89, 90, 91, 120, 121, 122, 123, 124, 125, 126, 127, 128, 102, 103, 104, 105, 106, 107, 108, 109, 110, 111, 112, 113, 114, 115, 116, 117, 118, 119, 129, 130, 131, 132, 133, 134, 135, 136, 137, 138, 139, 140] (by decide +kernel) (by decide +kernel)
set_option maxRecDepth 20000 in
theorem gX6_letLettersWork_X4_take : GoodIn wsX6_letLettersWork (wsV RX6 201 RX4 yX4_take wsX4_take) := goodIn_app (goodIn_of _ (by decide +kernel)) ggX6_letLettersWork_X4_take
theorem dX6_letLettersWork_0 : decode cX6_letLettersWork 0 = .ok (.iconst 0, 1) := by decide +kernel
theorem dX6_letLettersWork_1 : decode cX6_letLettersWork 1 = .ok (.istore_n 1, 1) := by decide +kernel
theorem dX6_letLettersWork_2 : decode cX6_letLettersWork 2 = .ok (.iload_n 1, 1) := by decide +kernel
theorem dX6_letLettersWork_3 : decode cX6_letLettersWork 3 = .ok (.aload_n 0, 1) := by decide +kernel
theorem dX6_letLettersWork_4 : decode cX6_letLettersWork 4 = .ok (.getfield 53, 3) := by decide +kernel
theorem dX6_letLettersWork_7 : decode cX6_letLettersWork 7 = .ok (.if_icmp .ge 38, 3) := by decide +kernel
theorem dX6_letLettersWork_10 : decode cX6_letLettersWork 10 = .ok (.aload_n 0, 1) := by decide +kernel
theorem dX6_letLettersWork_11 : decode cX6_letLettersWork 11 = .ok (.iload_n 1, 1) := by decide +kernel
theorem dX6_letLettersWork_12 : decode cX6_letLettersWork 12 = .ok (.invokevirtual 84, 3) := by decide +kernel
theorem dX6_letLettersWork_15 : decode cX6_letLettersWork 15 = .ok (.astore_n 2, 1) := by decide +kernel
theorem dX6_letLettersWork_16 : decode cX6_letLettersWork 16 = .ok (.aload_n 2, 1) := by decide +kernel
theorem dX6_letLettersWork_17 : decode cX6_letLettersWork 17 = .ok (.ifnull 22, 3) := by decide +kernel
theorem dX6_letLettersWork_20 : decode cX6_letLettersWork 20 = .ok (.aload_n 2, 1) := by decide +kernel
theorem dX6_letLettersWork_21 : decode cX6_letLettersWork 21 = .ok (.getfield 172, 3) := by decide +kernel
theorem dX6_letLettersWork_24 : decode cX6_letLettersWork 24 = .ok (.ifnull 15, 3) := by decide +kernel
theorem dX6_letLettersWork_27 : decode cX6_letLettersWork 27 = .ok (.aload_n 2, 1) := by decide +kernel
theorem dX6_letLettersWork_28 : decode cX6_letLettersWork 28 = .ok (.aload_n 2, 1) := by decide +kernel
theorem dX6_letLettersWork_29 : decode cX6_letLettersWork 29 = .ok (.getfield 172, 3) := by decide +kernel
theorem dX6_letLettersWork_32 : decode cX6_letLettersWork 32 = .ok (.aload_n 0, 1) := by decide +kernel
theorem dX6_letLettersWork_33 : decode cX6_letLettersWork 33 = .ok (.getfield 75, 3) := by decide +kernel
theorem dX6_letLettersWork_36 : decode cX6_letLettersWork 36 = .ok (.invokevirtual 201, 3) := by decide +kernel
theorem dX6_letLettersWork_39 : decode cX6_letLettersWork 39 = .ok (.iinc 1 1, 3) := by decide +kernel
theorem dX6_letLettersWork_42 : decode cX6_letLettersWork 42 = .ok (.goto (-40), 3) := by decide +kernel
theorem dX6_letLettersWork_45 : decode cX6_letLettersWork 45 = .ok (.return_, 1) := by decide +kernel
set_option maxRecDepth 20000 in
theorem ggX6_endTick_X6_machineAt : GoodIn wsX6_endTick wsX6_machineAt := goodIn_r _ [7, 1, 8, 51, 52, 53, 54, 55, 56, 57, 58, 59, 60] (by decide +kernel) (by decide +kernel)
set_option maxRecDepth 20000 in
theorem gX6_endTick_X6_machineAt : GoodIn wsX6_endTick (wsV RX6 84 RX6 yX6_machineAt wsX6_machineAt) := goodIn_app (goodIn_of _ (by decide +kernel)) ggX6_endTick_X6_machineAt
set_option maxRecDepth 20000 in
theorem ggX6_endTick_X4_end : GoodIn wsX6_endTick wsX4_end := goodIn_r _ [13, 14, 15, 16, 17, 18, 19, 20, 21, 22, 23, 24, 25, 26, 27, 28, 29, 30, 31, 32, 33, 34, 35, 36, 37, 38, 39, 40, 41, 42, 12, 43, 44, 45, 46, 47, 48, 49, 50, 61, 62, 63, 64, 65, 66, 67, 68, 69, 70, 71, 72, 73, 74, 75, 76, 77, 78, 79, 80, 81, 82, 83, 84, 85, 86, 87, 88, 89, 90] (by decide +kernel) (by decide +kernel)
set_option maxRecDepth 20000 in
theorem gX6_endTick_X4_end : GoodIn wsX6_endTick (wsV RX6 205 RX4 yX4_end wsX4_end) := goodIn_app (goodIn_of _ (by decide +kernel)) ggX6_endTick_X4_end
theorem dX6_endTick_0 : decode cX6_endTick 0 = .ok (.iconst 0, 1) := by decide +kernel
theorem dX6_endTick_1 : decode cX6_endTick 1 = .ok (.istore_n 1, 1) := by decide +kernel
theorem dX6_endTick_2 : decode cX6_endTick 2 = .ok (.iload_n 1, 1) := by decide +kernel
theorem dX6_endTick_3 : decode cX6_endTick 3 = .ok (.aload_n 0, 1) := by decide +kernel
theorem dX6_endTick_4 : decode cX6_endTick 4 = .ok (.getfield 53, 3) := by decide +kernel
theorem dX6_endTick_7 : decode cX6_endTick 7 = .ok (.if_icmp .ge 27, 3) := by decide +kernel
theorem dX6_endTick_10 : decode cX6_endTick 10 = .ok (.aload_n 0, 1) := by decide +kernel
theorem dX6_endTick_11 : decode cX6_endTick 11 = .ok (.iload_n 1, 1) := by decide +kernel
theorem dX6_endTick_12 : decode cX6_endTick 12 = .ok (.invokevirtual 84, 3) := by decide +kernel
theorem dX6_endTick_15 : decode cX6_endTick 15 = .ok (.astore_n 2, 1) := by decide +kernel
theorem dX6_endTick_16 : decode cX6_endTick 16 = .ok (.aload_n 2, 1) := by decide +kernel
theorem dX6_endTick_17 : decode cX6_endTick 17 = .ok (.ifnull 11, 3) := by decide +kernel
theorem dX6_endTick_20 : decode cX6_endTick 20 = .ok (.aload_n 2, 1) := by decide +kernel
theorem dX6_endTick_21 : decode cX6_endTick 21 = .ok (.aload_n 0, 1) := by decide +kernel
theorem dX6_endTick_22 : decode cX6_endTick 22 = .ok (.getfield 75, 3) := by decide +kernel
theorem dX6_endTick_25 : decode cX6_endTick 25 = .ok (.invokevirtual 205, 3) := by decide +kernel
theorem dX6_endTick_28 : decode cX6_endTick 28 = .ok (.iinc 1 1, 3) := by decide +kernel
theorem dX6_endTick_31 : decode cX6_endTick 31 = .ok (.goto (-29), 3) := by decide +kernel
theorem dX6_endTick_34 : decode cX6_endTick 34 = .ok (.return_, 1) := by decide +kernel
set_option maxRecDepth 20000 in
theorem ggX6_noteAllWhole_X6_machineAt : GoodIn wsX6_noteAllWhole wsX6_machineAt := goodIn_r _ [9, 3, 10, 23, 24, 25, 26, 27, 28, 29, 30, 31, 32] (by decide +kernel) (by decide +kernel)
set_option maxRecDepth 20000 in
theorem gX6_noteAllWhole_X6_machineAt : GoodIn wsX6_noteAllWhole (wsV RX6 84 RX6 yX6_machineAt wsX6_machineAt) := goodIn_app (goodIn_of _ (by decide +kernel)) ggX6_noteAllWhole_X6_machineAt
set_option maxRecDepth 20000 in
theorem ggX6_noteAllWhole_X4_isWholeOf : GoodIn wsX6_noteAllWhole wsX4_isWholeOf := goodIn_r _ [15, 16, 17, 18, 19, 14, 20, 21, 22, 33, 34, 35, 36, 37, 38, 39, 40, 41, 42, 43, 44, 45, 46, 47, 48, 49, 50, 51, 52, 53] (by decide +kernel) (by decide +kernel)
set_option maxRecDepth 20000 in
theorem gX6_noteAllWhole_X4_isWholeOf : GoodIn wsX6_noteAllWhole (wsV RX6 208 RX4 yX4_isWholeOf wsX4_isWholeOf) := goodIn_app (goodIn_of _ (by decide +kernel)) ggX6_noteAllWhole_X4_isWholeOf
theorem dX6_noteAllWhole_0 : decode cX6_noteAllWhole 0 = .ok (.aload_n 0, 1) := by decide +kernel
theorem dX6_noteAllWhole_1 : decode cX6_noteAllWhole 1 = .ok (.getfield 42, 3) := by decide +kernel
theorem dX6_noteAllWhole_4 : decode cX6_noteAllWhole 4 = .ok (.iconst (-1), 1) := by decide +kernel
theorem dX6_noteAllWhole_5 : decode cX6_noteAllWhole 5 = .ok (.if_icmp .ne 10, 3) := by decide +kernel
theorem dX6_noteAllWhole_8 : decode cX6_noteAllWhole 8 = .ok (.aload_n 0, 1) := by decide +kernel
theorem dX6_noteAllWhole_9 : decode cX6_noteAllWhole 9 = .ok (.getfield 106, 3) := by decide +kernel
theorem dX6_noteAllWhole_12 : decode cX6_noteAllWhole 12 = .ok (.ifCond .ne 4, 3) := by decide +kernel
theorem dX6_noteAllWhole_15 : decode cX6_noteAllWhole 15 = .ok (.return_, 1) := by decide +kernel
theorem dX6_noteAllWhole_16 : decode cX6_noteAllWhole 16 = .ok (.iconst 0, 1) := by decide +kernel
theorem dX6_noteAllWhole_17 : decode cX6_noteAllWhole 17 = .ok (.istore_n 1, 1) := by decide +kernel
theorem dX6_noteAllWhole_18 : decode cX6_noteAllWhole 18 = .ok (.iload_n 1, 1) := by decide +kernel
theorem dX6_noteAllWhole_19 : decode cX6_noteAllWhole 19 = .ok (.aload_n 0, 1) := by decide +kernel
theorem dX6_noteAllWhole_20 : decode cX6_noteAllWhole 20 = .ok (.getfield 53, 3) := by decide +kernel
theorem dX6_noteAllWhole_23 : decode cX6_noteAllWhole 23 = .ok (.if_icmp .ge 31, 3) := by decide +kernel
theorem dX6_noteAllWhole_26 : decode cX6_noteAllWhole 26 = .ok (.aload_n 0, 1) := by decide +kernel
theorem dX6_noteAllWhole_27 : decode cX6_noteAllWhole 27 = .ok (.iload_n 1, 1) := by decide +kernel
theorem dX6_noteAllWhole_28 : decode cX6_noteAllWhole 28 = .ok (.invokevirtual 84, 3) := by decide +kernel
theorem dX6_noteAllWhole_31 : decode cX6_noteAllWhole 31 = .ok (.astore_n 2, 1) := by decide +kernel
theorem dX6_noteAllWhole_32 : decode cX6_noteAllWhole 32 = .ok (.aload_n 2, 1) := by decide +kernel
theorem dX6_noteAllWhole_33 : decode cX6_noteAllWhole 33 = .ok (.ifnull 14, 3) := by decide +kernel
theorem dX6_noteAllWhole_36 : decode cX6_noteAllWhole 36 = .ok (.aload_n 2, 1) := by decide +kernel
theorem dX6_noteAllWhole_37 : decode cX6_noteAllWhole 37 = .ok (.aload_n 0, 1) := by decide +kernel
theorem dX6_noteAllWhole_38 : decode cX6_noteAllWhole 38 = .ok (.getfield 106, 3) := by decide +kernel
theorem dX6_noteAllWhole_41 : decode cX6_noteAllWhole 41 = .ok (.invokevirtual 208, 3) := by decide +kernel
theorem dX6_noteAllWhole_44 : decode cX6_noteAllWhole 44 = .ok (.ifCond .ne 4, 3) := by decide +kernel
theorem dX6_noteAllWhole_47 : decode cX6_noteAllWhole 47 = .ok (.return_, 1) := by decide +kernel
theorem dX6_noteAllWhole_48 : decode cX6_noteAllWhole 48 = .ok (.iinc 1 1, 3) := by decide +kernel
theorem dX6_noteAllWhole_51 : decode cX6_noteAllWhole 51 = .ok (.goto (-33), 3) := by decide +kernel
theorem dX6_noteAllWhole_54 : decode cX6_noteAllWhole 54 = .ok (.aload_n 0, 1) := by decide +kernel
theorem dX6_noteAllWhole_55 : decode cX6_noteAllWhole 55 = .ok (.aload_n 0, 1) := by decide +kernel
theorem dX6_noteAllWhole_56 : decode cX6_noteAllWhole 56 = .ok (.getfield 75, 3) := by decide +kernel
theorem dX6_noteAllWhole_59 : decode cX6_noteAllWhole 59 = .ok (.putfield 42, 3) := by decide +kernel
theorem dX6_noteAllWhole_62 : decode cX6_noteAllWhole 62 = .ok (.return_, 1) := by decide +kernel
set_option maxRecDepth 20000 in
theorem ggX6_lettersSent_X6_machineAt : GoodIn wsX6_lettersSent wsX6_machineAt := goodIn_r _ [6, 1, 7, 8, 9, 10, 11, 12, 13, 14, 15, 16, 17] (by decide +kernel) (by decide +kernel)
set_option maxRecDepth 20000 in
theorem gX6_lettersSent_X6_machineAt : GoodIn wsX6_lettersSent (wsV RX6 84 RX6 yX6_machineAt wsX6_machineAt) := goodIn_app (goodIn_of _ (by decide +kernel)) ggX6_lettersSent_X6_machineAt
theorem dX6_lettersSent_0 : decode cX6_lettersSent 0 = .ok (.iconst 0, 1) := by decide +kernel
theorem dX6_lettersSent_1 : decode cX6_lettersSent 1 = .ok (.istore_n 1, 1) := by decide +kernel
theorem dX6_lettersSent_2 : decode cX6_lettersSent 2 = .ok (.iconst 0, 1) := by decide +kernel
theorem dX6_lettersSent_3 : decode cX6_lettersSent 3 = .ok (.istore_n 2, 1) := by decide +kernel
theorem dX6_lettersSent_4 : decode cX6_lettersSent 4 = .ok (.iload_n 2, 1) := by decide +kernel
theorem dX6_lettersSent_5 : decode cX6_lettersSent 5 = .ok (.aload_n 0, 1) := by decide +kernel
theorem dX6_lettersSent_6 : decode cX6_lettersSent 6 = .ok (.getfield 53, 3) := by decide +kernel
theorem dX6_lettersSent_9 : decode cX6_lettersSent 9 = .ok (.if_icmp .ge 31, 3) := by decide +kernel
theorem dX6_lettersSent_12 : decode cX6_lettersSent 12 = .ok (.aload_n 0, 1) := by decide +kernel
theorem dX6_lettersSent_13 : decode cX6_lettersSent 13 = .ok (.iload_n 2, 1) := by decide +kernel
theorem dX6_lettersSent_14 : decode cX6_lettersSent 14 = .ok (.invokevirtual 84, 3) := by decide +kernel
theorem dX6_lettersSent_17 : decode cX6_lettersSent 17 = .ok (.astore_n 3, 1) := by decide +kernel
theorem dX6_lettersSent_18 : decode cX6_lettersSent 18 = .ok (.aload_n 3, 1) := by decide +kernel
theorem dX6_lettersSent_19 : decode cX6_lettersSent 19 = .ok (.ifnull 15, 3) := by decide +kernel
theorem dX6_lettersSent_22 : decode cX6_lettersSent 22 = .ok (.iload_n 1, 1) := by decide +kernel
theorem dX6_lettersSent_23 : decode cX6_lettersSent 23 = .ok (.aload_n 3, 1) := by decide +kernel
theorem dX6_lettersSent_24 : decode cX6_lettersSent 24 = .ok (.getfield 212, 3) := by decide +kernel
theorem dX6_lettersSent_27 : decode cX6_lettersSent 27 = .ok (.aload_n 3, 1) := by decide +kernel
theorem dX6_lettersSent_28 : decode cX6_lettersSent 28 = .ok (.getfield 215, 3) := by decide +kernel
theorem dX6_lettersSent_31 : decode cX6_lettersSent 31 = .ok (.iadd, 1) := by decide +kernel
theorem dX6_lettersSent_32 : decode cX6_lettersSent 32 = .ok (.iadd, 1) := by decide +kernel
theorem dX6_lettersSent_33 : decode cX6_lettersSent 33 = .ok (.istore_n 1, 1) := by decide +kernel
theorem dX6_lettersSent_34 : decode cX6_lettersSent 34 = .ok (.iinc 2 1, 3) := by decide +kernel
theorem dX6_lettersSent_37 : decode cX6_lettersSent 37 = .ok (.goto (-33), 3) := by decide +kernel
theorem dX6_lettersSent_40 : decode cX6_lettersSent 40 = .ok (.iload_n 1, 1) := by decide +kernel
theorem dX6_lettersSent_41 : decode cX6_lettersSent 41 = .ok (.ireturn, 1) := by decide +kernel
set_option maxRecDepth 20000 in
theorem ggX6_runnersOfGreatest_X6_machineAt : GoodIn wsX6_runnersOfGreatest wsX6_machineAt := goodIn_r _ [7, 1, 8, 9, 10, 11, 12, 13, 14, 15, 16, 17, 18] (by decide +kernel) (by decide +kernel)
set_option maxRecDepth 20000 in
theorem gX6_runnersOfGreatest_X6_machineAt : GoodIn wsX6_runnersOfGreatest (wsV RX6 84 RX6 yX6_machineAt wsX6_machineAt) := goodIn_app (goodIn_of _ (by decide +kernel)) ggX6_runnersOfGreatest_X6_machineAt
theorem dX6_runnersOfGreatest_0 : decode cX6_runnersOfGreatest 0 = .ok (.iconst 0, 1) := by decide +kernel
theorem dX6_runnersOfGreatest_1 : decode cX6_runnersOfGreatest 1 = .ok (.istore_n 1, 1) := by decide +kernel
theorem dX6_runnersOfGreatest_2 : decode cX6_runnersOfGreatest 2 = .ok (.iconst 0, 1) := by decide +kernel
theorem dX6_runnersOfGreatest_3 : decode cX6_runnersOfGreatest 3 = .ok (.istore_n 2, 1) := by decide +kernel
theorem dX6_runnersOfGreatest_4 : decode cX6_runnersOfGreatest 4 = .ok (.iload_n 2, 1) := by decide +kernel
theorem dX6_runnersOfGreatest_5 : decode cX6_runnersOfGreatest 5 = .ok (.aload_n 0, 1) := by decide +kernel
theorem dX6_runnersOfGreatest_6 : decode cX6_runnersOfGreatest 6 = .ok (.getfield 53, 3) := by decide +kernel
theorem dX6_runnersOfGreatest_9 : decode cX6_runnersOfGreatest 9 = .ok (.if_icmp .ge 40, 3) := by decide +kernel
theorem dX6_runnersOfGreatest_12 : decode cX6_runnersOfGreatest 12 = .ok (.aload_n 0, 1) := by decide +kernel
theorem dX6_runnersOfGreatest_13 : decode cX6_runnersOfGreatest 13 = .ok (.iload_n 2, 1) := by decide +kernel
theorem dX6_runnersOfGreatest_14 : decode cX6_runnersOfGreatest 14 = .ok (.invokevirtual 84, 3) := by decide +kernel
theorem dX6_runnersOfGreatest_17 : decode cX6_runnersOfGreatest 17 = .ok (.astore_n 3, 1) := by decide +kernel
theorem dX6_runnersOfGreatest_18 : decode cX6_runnersOfGreatest 18 = .ok (.aload_n 3, 1) := by decide +kernel
theorem dX6_runnersOfGreatest_19 : decode cX6_runnersOfGreatest 19 = .ok (.ifnull 24, 3) := by decide +kernel
theorem dX6_runnersOfGreatest_22 : decode cX6_runnersOfGreatest 22 = .ok (.aload_n 0, 1) := by decide +kernel
theorem dX6_runnersOfGreatest_23 : decode cX6_runnersOfGreatest 23 = .ok (.getfield 106, 3) := by decide +kernel
theorem dX6_runnersOfGreatest_26 : decode cX6_runnersOfGreatest 26 = .ok (.ifCond .eq 17, 3) := by decide +kernel
theorem dX6_runnersOfGreatest_29 : decode cX6_runnersOfGreatest 29 = .ok (.aload_n 3, 1) := by decide +kernel
theorem dX6_runnersOfGreatest_30 : decode cX6_runnersOfGreatest 30 = .ok (.getfield 218, 3) := by decide +kernel
theorem dX6_runnersOfGreatest_33 : decode cX6_runnersOfGreatest 33 = .ok (.aload_n 0, 1) := by decide +kernel
theorem dX6_runnersOfGreatest_34 : decode cX6_runnersOfGreatest 34 = .ok (.getfield 106, 3) := by decide +kernel
theorem dX6_runnersOfGreatest_37 : decode cX6_runnersOfGreatest 37 = .ok (.if_icmp .ne 6, 3) := by decide +kernel
theorem dX6_runnersOfGreatest_40 : decode cX6_runnersOfGreatest 40 = .ok (.iinc 1 1, 3) := by decide +kernel
theorem dX6_runnersOfGreatest_43 : decode cX6_runnersOfGreatest 43 = .ok (.iinc 2 1, 3) := by decide +kernel
theorem dX6_runnersOfGreatest_46 : decode cX6_runnersOfGreatest 46 = .ok (.goto (-42), 3) := by decide +kernel
theorem dX6_runnersOfGreatest_49 : decode cX6_runnersOfGreatest 49 = .ok (.iload_n 1, 1) := by decide +kernel
theorem dX6_runnersOfGreatest_50 : decode cX6_runnersOfGreatest 50 = .ok (.ireturn, 1) := by decide +kernel
theorem dX7_init_0 : decode cX7_init 0 = .ok (.aload_n 0, 1) := by decide +kernel
theorem dX7_init_1 : decode cX7_init 1 = .ok (.invokespecial 1, 3) := by decide +kernel
theorem dX7_init_4 : decode cX7_init 4 = .ok (.aload_n 0, 1) := by decide +kernel
theorem dX7_init_5 : decode cX7_init 5 = .ok (.iconst 1, 1) := by decide +kernel
theorem dX7_init_6 : decode cX7_init 6 = .ok (.putfield 7, 3) := by decide +kernel
theorem dX7_init_9 : decode cX7_init 9 = .ok (.aload_n 0, 1) := by decide +kernel
theorem dX7_init_10 : decode cX7_init 10 = .ok (.iconst 2, 1) := by decide +kernel
theorem dX7_init_11 : decode cX7_init 11 = .ok (.putfield 13, 3) := by decide +kernel
theorem dX7_init_14 : decode cX7_init 14 = .ok (.aload_n 0, 1) := by decide +kernel
theorem dX7_init_15 : decode cX7_init 15 = .ok (.iconst 4, 1) := by decide +kernel
theorem dX7_init_16 : decode cX7_init 16 = .ok (.putfield 16, 3) := by decide +kernel
theorem dX7_init_19 : decode cX7_init 19 = .ok (.aload_n 0, 1) := by decide +kernel
theorem dX7_init_20 : decode cX7_init 20 = .ok (.bipush 64, 2) := by decide +kernel
theorem dX7_init_22 : decode cX7_init 22 = .ok (.putfield 19, 3) := by decide +kernel
theorem dX7_init_25 : decode cX7_init 25 = .ok (.aload_n 0, 1) := by decide +kernel
theorem dX7_init_26 : decode cX7_init 26 = .ok (.bipush 6, 2) := by decide +kernel
theorem dX7_init_28 : decode cX7_init 28 = .ok (.putfield 22, 3) := by decide +kernel
theorem dX7_init_31 : decode cX7_init 31 = .ok (.aload_n 0, 1) := by decide +kernel
theorem dX7_init_32 : decode cX7_init 32 = .ok (.bipush 12, 2) := by decide +kernel
theorem dX7_init_34 : decode cX7_init 34 = .ok (.newarray .int, 2) := by decide +kernel
theorem dX7_init_36 : decode cX7_init 36 = .ok (.putfield 25, 3) := by decide +kernel
theorem dX7_init_39 : decode cX7_init 39 = .ok (.aload_n 0, 1) := by decide +kernel
theorem dX7_init_40 : decode cX7_init 40 = .ok (.sipush 144, 3) := by decide +kernel
theorem dX7_init_43 : decode cX7_init 43 = .ok (.newarray .int, 2) := by decide +kernel
theorem dX7_init_45 : decode cX7_init 45 = .ok (.putfield 29, 3) := by decide +kernel
theorem dX7_init_48 : decode cX7_init 48 = .ok (.aload_n 0, 1) := by decide +kernel
theorem dX7_init_49 : decode cX7_init 49 = .ok (.bipush 12, 2) := by decide +kernel
theorem dX7_init_51 : decode cX7_init 51 = .ok (.newarray .int, 2) := by decide +kernel
theorem dX7_init_53 : decode cX7_init 53 = .ok (.putfield 32, 3) := by decide +kernel
theorem dX7_init_56 : decode cX7_init 56 = .ok (.aload_n 0, 1) := by decide +kernel
theorem dX7_init_57 : decode cX7_init 57 = .ok (.bipush 12, 2) := by decide +kernel
theorem dX7_init_59 : decode cX7_init 59 = .ok (.newarray .int, 2) := by decide +kernel
theorem dX7_init_61 : decode cX7_init 61 = .ok (.putfield 35, 3) := by decide +kernel
theorem dX7_init_64 : decode cX7_init 64 = .ok (.aload_n 0, 1) := by decide +kernel
theorem dX7_init_65 : decode cX7_init 65 = .ok (.bipush 12, 2) := by decide +kernel
theorem dX7_init_67 : decode cX7_init 67 = .ok (.newarray .int, 2) := by decide +kernel
theorem dX7_init_69 : decode cX7_init 69 = .ok (.putfield 38, 3) := by decide +kernel
theorem dX7_init_72 : decode cX7_init 72 = .ok (.aload_n 0, 1) := by decide +kernel
theorem dX7_init_73 : decode cX7_init 73 = .ok (.sipush 144, 3) := by decide +kernel
theorem dX7_init_76 : decode cX7_init 76 = .ok (.newarray .int, 2) := by decide +kernel
theorem dX7_init_78 : decode cX7_init 78 = .ok (.putfield 41, 3) := by decide +kernel
theorem dX7_init_81 : decode cX7_init 81 = .ok (.aload_n 0, 1) := by decide +kernel
theorem dX7_init_82 : decode cX7_init 82 = .ok (.sipush 144, 3) := by decide +kernel
theorem dX7_init_85 : decode cX7_init 85 = .ok (.newarray .int, 2) := by decide +kernel
theorem dX7_init_87 : decode cX7_init 87 = .ok (.putfield 44, 3) := by decide +kernel
theorem dX7_init_90 : decode cX7_init 90 = .ok (.aload_n 0, 1) := by decide +kernel
theorem dX7_init_91 : decode cX7_init 91 = .ok (.bipush 12, 2) := by decide +kernel
theorem dX7_init_93 : decode cX7_init 93 = .ok (.newarray .int, 2) := by decide +kernel
theorem dX7_init_95 : decode cX7_init 95 = .ok (.putfield 47, 3) := by decide +kernel
theorem dX7_init_98 : decode cX7_init 98 = .ok (.aload_n 0, 1) := by decide +kernel
theorem dX7_init_99 : decode cX7_init 99 = .ok (.bipush 12, 2) := by decide +kernel
theorem dX7_init_101 : decode cX7_init 101 = .ok (.newarray .int, 2) := by decide +kernel
theorem dX7_init_103 : decode cX7_init 103 = .ok (.putfield 50, 3) := by decide +kernel
theorem dX7_init_106 : decode cX7_init 106 = .ok (.aload_n 0, 1) := by decide +kernel
theorem dX7_init_107 : decode cX7_init 107 = .ok (.bipush 12, 2) := by decide +kernel
theorem dX7_init_109 : decode cX7_init 109 = .ok (.newarray .int, 2) := by decide +kernel
theorem dX7_init_111 : decode cX7_init 111 = .ok (.putfield 53, 3) := by decide +kernel
theorem dX7_init_114 : decode cX7_init 114 = .ok (.aload_n 0, 1) := by decide +kernel
theorem dX7_init_115 : decode cX7_init 115 = .ok (.bipush 12, 2) := by decide +kernel
theorem dX7_init_117 : decode cX7_init 117 = .ok (.newarray .int, 2) := by decide +kernel
theorem dX7_init_119 : decode cX7_init 119 = .ok (.putfield 56, 3) := by decide +kernel
theorem dX7_init_122 : decode cX7_init 122 = .ok (.aload_n 0, 1) := by decide +kernel
theorem dX7_init_123 : decode cX7_init 123 = .ok (.bipush 12, 2) := by decide +kernel
theorem dX7_init_125 : decode cX7_init 125 = .ok (.newarray .int, 2) := by decide +kernel
theorem dX7_init_127 : decode cX7_init 127 = .ok (.putfield 59, 3) := by decide +kernel
theorem dX7_init_130 : decode cX7_init 130 = .ok (.aload_n 0, 1) := by decide +kernel
theorem dX7_init_131 : decode cX7_init 131 = .ok (.bipush 12, 2) := by decide +kernel
theorem dX7_init_133 : decode cX7_init 133 = .ok (.newarray .int, 2) := by decide +kernel
theorem dX7_init_135 : decode cX7_init 135 = .ok (.putfield 62, 3) := by decide +kernel
theorem dX7_init_138 : decode cX7_init 138 = .ok (.aload_n 0, 1) := by decide +kernel
theorem dX7_init_139 : decode cX7_init 139 = .ok (.bipush 12, 2) := by decide +kernel
theorem dX7_init_141 : decode cX7_init 141 = .ok (.newarray .int, 2) := by decide +kernel
theorem dX7_init_143 : decode cX7_init 143 = .ok (.putfield 65, 3) := by decide +kernel
theorem dX7_init_146 : decode cX7_init 146 = .ok (.aload_n 0, 1) := by decide +kernel
theorem dX7_init_147 : decode cX7_init 147 = .ok (.bipush 12, 2) := by decide +kernel
theorem dX7_init_149 : decode cX7_init 149 = .ok (.newarray .int, 2) := by decide +kernel
theorem dX7_init_151 : decode cX7_init 151 = .ok (.putfield 68, 3) := by decide +kernel
theorem dX7_init_154 : decode cX7_init 154 = .ok (.aload_n 0, 1) := by decide +kernel
theorem dX7_init_155 : decode cX7_init 155 = .ok (.bipush 12, 2) := by decide +kernel
theorem dX7_init_157 : decode cX7_init 157 = .ok (.newarray .int, 2) := by decide +kernel
theorem dX7_init_159 : decode cX7_init 159 = .ok (.putfield 71, 3) := by decide +kernel
theorem dX7_init_162 : decode cX7_init 162 = .ok (.aload_n 0, 1) := by decide +kernel
theorem dX7_init_163 : decode cX7_init 163 = .ok (.bipush 12, 2) := by decide +kernel
theorem dX7_init_165 : decode cX7_init 165 = .ok (.newarray .int, 2) := by decide +kernel
theorem dX7_init_167 : decode cX7_init 167 = .ok (.putfield 74, 3) := by decide +kernel
theorem dX7_init_170 : decode cX7_init 170 = .ok (.aload_n 0, 1) := by decide +kernel
theorem dX7_init_171 : decode cX7_init 171 = .ok (.bipush 12, 2) := by decide +kernel
theorem dX7_init_173 : decode cX7_init 173 = .ok (.newarray .int, 2) := by decide +kernel
theorem dX7_init_175 : decode cX7_init 175 = .ok (.putfield 77, 3) := by decide +kernel
theorem dX7_init_178 : decode cX7_init 178 = .ok (.aload_n 0, 1) := by decide +kernel
theorem dX7_init_179 : decode cX7_init 179 = .ok (.bipush 12, 2) := by decide +kernel
theorem dX7_init_181 : decode cX7_init 181 = .ok (.newarray .int, 2) := by decide +kernel
theorem dX7_init_183 : decode cX7_init 183 = .ok (.putfield 80, 3) := by decide +kernel
theorem dX7_init_186 : decode cX7_init 186 = .ok (.aload_n 0, 1) := by decide +kernel
theorem dX7_init_187 : decode cX7_init 187 = .ok (.bipush 12, 2) := by decide +kernel
theorem dX7_init_189 : decode cX7_init 189 = .ok (.newarray .int, 2) := by decide +kernel
theorem dX7_init_191 : decode cX7_init 191 = .ok (.putfield 83, 3) := by decide +kernel
theorem dX7_init_194 : decode cX7_init 194 = .ok (.aload_n 0, 1) := by decide +kernel
theorem dX7_init_195 : decode cX7_init 195 = .ok (.iconst (-1), 1) := by decide +kernel
theorem dX7_init_196 : decode cX7_init 196 = .ok (.putfield 86, 3) := by decide +kernel
theorem dX7_init_199 : decode cX7_init 199 = .ok (.aload_n 0, 1) := by decide +kernel
theorem dX7_init_200 : decode cX7_init 200 = .ok (.bipush 12, 2) := by decide +kernel
theorem dX7_init_202 : decode cX7_init 202 = .ok (.newarray .int, 2) := by decide +kernel
theorem dX7_init_204 : decode cX7_init 204 = .ok (.putfield 89, 3) := by decide +kernel
theorem dX7_init_207 : decode cX7_init 207 = .ok (.aload_n 0, 1) := by decide +kernel
theorem dX7_init_208 : decode cX7_init 208 = .ok (.bipush 12, 2) := by decide +kernel
theorem dX7_init_210 : decode cX7_init 210 = .ok (.newarray .int, 2) := by decide +kernel
theorem dX7_init_212 : decode cX7_init 212 = .ok (.putfield 92, 3) := by decide +kernel
theorem dX7_init_215 : decode cX7_init 215 = .ok (.aload_n 0, 1) := by decide +kernel
theorem dX7_init_216 : decode cX7_init 216 = .ok (.bipush 12, 2) := by decide +kernel
theorem dX7_init_218 : decode cX7_init 218 = .ok (.newarray .int, 2) := by decide +kernel
theorem dX7_init_220 : decode cX7_init 220 = .ok (.putfield 95, 3) := by decide +kernel
theorem dX7_init_223 : decode cX7_init 223 = .ok (.aload_n 0, 1) := by decide +kernel
theorem dX7_init_224 : decode cX7_init 224 = .ok (.bipush 12, 2) := by decide +kernel
theorem dX7_init_226 : decode cX7_init 226 = .ok (.newarray .int, 2) := by decide +kernel
theorem dX7_init_228 : decode cX7_init 228 = .ok (.putfield 98, 3) := by decide +kernel
theorem dX7_init_231 : decode cX7_init 231 = .ok (.aload_n 0, 1) := by decide +kernel
theorem dX7_init_232 : decode cX7_init 232 = .ok (.bipush 12, 2) := by decide +kernel
theorem dX7_init_234 : decode cX7_init 234 = .ok (.newarray .int, 2) := by decide +kernel
theorem dX7_init_236 : decode cX7_init 236 = .ok (.putfield 101, 3) := by decide +kernel
theorem dX7_init_239 : decode cX7_init 239 = .ok (.aload_n 0, 1) := by decide +kernel
theorem dX7_init_240 : decode cX7_init 240 = .ok (.bipush 12, 2) := by decide +kernel
theorem dX7_init_242 : decode cX7_init 242 = .ok (.newarray .int, 2) := by decide +kernel
theorem dX7_init_244 : decode cX7_init 244 = .ok (.putfield 104, 3) := by decide +kernel
theorem dX7_init_247 : decode cX7_init 247 = .ok (.aload_n 0, 1) := by decide +kernel
theorem dX7_init_248 : decode cX7_init 248 = .ok (.bipush 12, 2) := by decide +kernel
theorem dX7_init_250 : decode cX7_init 250 = .ok (.newarray .int, 2) := by decide +kernel
theorem dX7_init_252 : decode cX7_init 252 = .ok (.putfield 107, 3) := by decide +kernel
theorem dX7_init_255 : decode cX7_init 255 = .ok (.aload_n 0, 1) := by decide +kernel
theorem dX7_init_256 : decode cX7_init 256 = .ok (.bipush 12, 2) := by decide +kernel
theorem dX7_init_258 : decode cX7_init 258 = .ok (.newarray .int, 2) := by decide +kernel
theorem dX7_init_260 : decode cX7_init 260 = .ok (.putfield 110, 3) := by decide +kernel
theorem dX7_init_263 : decode cX7_init 263 = .ok (.aload_n 0, 1) := by decide +kernel
theorem dX7_init_264 : decode cX7_init 264 = .ok (.bipush 12, 2) := by decide +kernel
theorem dX7_init_266 : decode cX7_init 266 = .ok (.newarray .int, 2) := by decide +kernel
theorem dX7_init_268 : decode cX7_init 268 = .ok (.putfield 113, 3) := by decide +kernel
theorem dX7_init_271 : decode cX7_init 271 = .ok (.aload_n 0, 1) := by decide +kernel
theorem dX7_init_272 : decode cX7_init 272 = .ok (.bipush 12, 2) := by decide +kernel
theorem dX7_init_274 : decode cX7_init 274 = .ok (.newarray .int, 2) := by decide +kernel
theorem dX7_init_276 : decode cX7_init 276 = .ok (.putfield 116, 3) := by decide +kernel
theorem dX7_init_279 : decode cX7_init 279 = .ok (.iconst 0, 1) := by decide +kernel
theorem dX7_init_280 : decode cX7_init 280 = .ok (.istore_n 1, 1) := by decide +kernel
theorem dX7_init_281 : decode cX7_init 281 = .ok (.iload_n 1, 1) := by decide +kernel
theorem dX7_init_282 : decode cX7_init 282 = .ok (.sipush 144, 3) := by decide +kernel
theorem dX7_init_285 : decode cX7_init 285 = .ok (.if_icmp .ge 16, 3) := by decide +kernel
theorem dX7_init_288 : decode cX7_init 288 = .ok (.aload_n 0, 1) := by decide +kernel
theorem dX7_init_289 : decode cX7_init 289 = .ok (.getfield 29, 3) := by decide +kernel
theorem dX7_init_292 : decode cX7_init 292 = .ok (.iload_n 1, 1) := by decide +kernel
theorem dX7_init_293 : decode cX7_init 293 = .ok (.iconst (-1), 1) := by decide +kernel
theorem dX7_init_294 : decode cX7_init 294 = .ok (.iastore, 1) := by decide +kernel
theorem dX7_init_295 : decode cX7_init 295 = .ok (.iinc 1 1, 3) := by decide +kernel
theorem dX7_init_298 : decode cX7_init 298 = .ok (.goto (-17), 3) := by decide +kernel
theorem dX7_init_301 : decode cX7_init 301 = .ok (.return_, 1) := by decide +kernel
theorem dX7_isIn_0 : decode cX7_isIn 0 = .ok (.iload_n 0, 1) := by decide +kernel
theorem dX7_isIn_1 : decode cX7_isIn 1 = .ok (.iload_n 1, 1) := by decide +kernel
theorem dX7_isIn_2 : decode cX7_isIn 2 = .ok (.if_icmp .lt 12, 3) := by decide +kernel
theorem dX7_isIn_5 : decode cX7_isIn 5 = .ok (.iload_n 0, 1) := by decide +kernel
theorem dX7_isIn_6 : decode cX7_isIn 6 = .ok (.iload_n 2, 1) := by decide +kernel
theorem dX7_isIn_7 : decode cX7_isIn 7 = .ok (.if_icmp .gt 7, 3) := by decide +kernel
theorem dX7_isIn_10 : decode cX7_isIn 10 = .ok (.iconst 1, 1) := by decide +kernel
theorem dX7_isIn_11 : decode cX7_isIn 11 = .ok (.goto 4, 3) := by decide +kernel
theorem dX7_isIn_14 : decode cX7_isIn 14 = .ok (.iconst 0, 1) := by decide +kernel
theorem dX7_isIn_15 : decode cX7_isIn 15 = .ok (.ireturn, 1) := by decide +kernel
set_option maxRecDepth 20000 in
theorem ggX7_isMachine_X7_isIn : GoodIn wsX7_isMachine wsX7_isIn := goodIn_r _ [5] (by decide +kernel) (by decide +kernel)
set_option maxRecDepth 20000 in
theorem gX7_isMachine_X7_isIn : GoodIn wsX7_isMachine (va_wsS RX7 122 yX7_isIn wsX7_isIn) := goodIn_app (goodIn_of _ (by decide +kernel)) ggX7_isMachine_X7_isIn
theorem dX7_isMachine_0 : decode cX7_isMachine 0 = .ok (.iload_n 1, 1) := by decide +kernel
theorem dX7_isMachine_1 : decode cX7_isMachine 1 = .ok (.iconst 0, 1) := by decide +kernel
theorem dX7_isMachine_2 : decode cX7_isMachine 2 = .ok (.aload_n 0, 1) := by decide +kernel
theorem dX7_isMachine_3 : decode cX7_isMachine 3 = .ok (.getfield 119, 3) := by decide +kernel
theorem dX7_isMachine_6 : decode cX7_isMachine 6 = .ok (.iconst 1, 1) := by decide +kernel
theorem dX7_isMachine_7 : decode cX7_isMachine 7 = .ok (.isub, 1) := by decide +kernel
theorem dX7_isMachine_8 : decode cX7_isMachine 8 = .ok (.invokestatic 122, 3) := by decide +kernel
theorem dX7_isMachine_11 : decode cX7_isMachine 11 = .ok (.ireturn, 1) := by decide +kernel
theorem dX7_draw_0 : decode cX7_draw 0 = .ok (.aload_n 0, 1) := by decide +kernel
theorem dX7_draw_1 : decode cX7_draw 1 = .ok (.aload_n 0, 1) := by decide +kernel
theorem dX7_draw_2 : decode cX7_draw 2 = .ok (.getfield 7, 3) := by decide +kernel
theorem dX7_draw_5 : decode cX7_draw 5 = .ok (.ldc 126, 2) := by decide +kernel
theorem dX7_draw_7 : decode cX7_draw 7 = .ok (.imul, 1) := by decide +kernel
theorem dX7_draw_8 : decode cX7_draw 8 = .ok (.sipush 12345, 3) := by decide +kernel
theorem dX7_draw_11 : decode cX7_draw 11 = .ok (.iadd, 1) := by decide +kernel
theorem dX7_draw_12 : decode cX7_draw 12 = .ok (.putfield 7, 3) := by decide +kernel
theorem dX7_draw_15 : decode cX7_draw 15 = .ok (.aload_n 0, 1) := by decide +kernel
theorem dX7_draw_16 : decode cX7_draw 16 = .ok (.getfield 7, 3) := by decide +kernel
theorem dX7_draw_19 : decode cX7_draw 19 = .ok (.bipush 16, 2) := by decide +kernel
theorem dX7_draw_21 : decode cX7_draw 21 = .ok (.iushr, 1) := by decide +kernel
theorem dX7_draw_22 : decode cX7_draw 22 = .ok (.iload_n 1, 1) := by decide +kernel
theorem dX7_draw_23 : decode cX7_draw 23 = .ok (.irem, 1) := by decide +kernel
theorem dX7_draw_24 : decode cX7_draw 24 = .ok (.ireturn, 1) := by decide +kernel
theorem dX7_seed_0 : decode cX7_seed 0 = .ok (.aload_n 0, 1) := by decide +kernel
theorem dX7_seed_1 : decode cX7_seed 1 = .ok (.iload_n 1, 1) := by decide +kernel
theorem dX7_seed_2 : decode cX7_seed 2 = .ok (.putfield 7, 3) := by decide +kernel
theorem dX7_seed_5 : decode cX7_seed 5 = .ok (.return_, 1) := by decide +kernel
set_option maxRecDepth 20000 in
theorem ggX7_rules_X7_isIn : GoodIn wsX7_rules wsX7_isIn := goodIn_r _ [9] (by decide +kernel) (by decide +kernel)
set_option maxRecDepth 20000 in
theorem gX7_rules_X7_isIn : GoodIn wsX7_rules (va_wsS RX7 122 yX7_isIn wsX7_isIn) := goodIn_app (goodIn_of _ (by decide +kernel)) ggX7_rules_X7_isIn
theorem dX7_rules_0 : decode cX7_rules 0 = .ok (.iload_n 1, 1) := by decide +kernel
theorem dX7_rules_1 : decode cX7_rules 1 = .ok (.iconst 1, 1) := by decide +kernel
theorem dX7_rules_2 : decode cX7_rules 2 = .ok (.bipush 9, 2) := by decide +kernel
theorem dX7_rules_4 : decode cX7_rules 4 = .ok (.invokestatic 122, 3) := by decide +kernel
theorem dX7_rules_7 : decode cX7_rules 7 = .ok (.ifCond .eq 42, 3) := by decide +kernel
theorem dX7_rules_10 : decode cX7_rules 10 = .ok (.iload_n 2, 1) := by decide +kernel
theorem dX7_rules_11 : decode cX7_rules 11 = .ok (.iconst 2, 1) := by decide +kernel
theorem dX7_rules_12 : decode cX7_rules 12 = .ok (.bipush 64, 2) := by decide +kernel
theorem dX7_rules_14 : decode cX7_rules 14 = .ok (.invokestatic 122, 3) := by decide +kernel
theorem dX7_rules_17 : decode cX7_rules 17 = .ok (.ifCond .eq 32, 3) := by decide +kernel
theorem dX7_rules_20 : decode cX7_rules 20 = .ok (.iload_n 3, 1) := by decide +kernel
theorem dX7_rules_21 : decode cX7_rules 21 = .ok (.iload_n 2, 1) := by decide +kernel
theorem dX7_rules_22 : decode cX7_rules 22 = .ok (.sipush 1024, 3) := by decide +kernel
theorem dX7_rules_25 : decode cX7_rules 25 = .ok (.invokestatic 122, 3) := by decide +kernel
theorem dX7_rules_28 : decode cX7_rules 28 = .ok (.ifCond .eq 21, 3) := by decide +kernel
theorem dX7_rules_31 : decode cX7_rules 31 = .ok (.iload 4, 2) := by decide +kernel
theorem dX7_rules_33 : decode cX7_rules 33 = .ok (.iconst 1, 1) := by decide +kernel
theorem dX7_rules_34 : decode cX7_rules 34 = .ok (.bipush 32, 2) := by decide +kernel
theorem dX7_rules_36 : decode cX7_rules 36 = .ok (.invokestatic 122, 3) := by decide +kernel
theorem dX7_rules_39 : decode cX7_rules 39 = .ok (.ifCond .eq 10, 3) := by decide +kernel
theorem dX7_rules_42 : decode cX7_rules 42 = .ok (.aload_n 0, 1) := by decide +kernel
theorem dX7_rules_43 : decode cX7_rules 43 = .ok (.getfield 119, 3) := by decide +kernel
theorem dX7_rules_46 : decode cX7_rules 46 = .ok (.ifCond .le 5, 3) := by decide +kernel
theorem dX7_rules_49 : decode cX7_rules 49 = .ok (.iconst 0, 1) := by decide +kernel
theorem dX7_rules_50 : decode cX7_rules 50 = .ok (.ireturn, 1) := by decide +kernel
theorem dX7_rules_51 : decode cX7_rules 51 = .ok (.aload_n 0, 1) := by decide +kernel
theorem dX7_rules_52 : decode cX7_rules 52 = .ok (.iload_n 1, 1) := by decide +kernel
theorem dX7_rules_53 : decode cX7_rules 53 = .ok (.putfield 13, 3) := by decide +kernel
theorem dX7_rules_56 : decode cX7_rules 56 = .ok (.aload_n 0, 1) := by decide +kernel
theorem dX7_rules_57 : decode cX7_rules 57 = .ok (.iload_n 2, 1) := by decide +kernel
theorem dX7_rules_58 : decode cX7_rules 58 = .ok (.putfield 16, 3) := by decide +kernel
theorem dX7_rules_61 : decode cX7_rules 61 = .ok (.aload_n 0, 1) := by decide +kernel
theorem dX7_rules_62 : decode cX7_rules 62 = .ok (.iload_n 3, 1) := by decide +kernel
theorem dX7_rules_63 : decode cX7_rules 63 = .ok (.putfield 19, 3) := by decide +kernel
theorem dX7_rules_66 : decode cX7_rules 66 = .ok (.aload_n 0, 1) := by decide +kernel
theorem dX7_rules_67 : decode cX7_rules 67 = .ok (.iload 4, 2) := by decide +kernel
theorem dX7_rules_69 : decode cX7_rules 69 = .ok (.putfield 22, 3) := by decide +kernel
theorem dX7_rules_72 : decode cX7_rules 72 = .ok (.iconst 1, 1) := by decide +kernel
theorem dX7_rules_73 : decode cX7_rules 73 = .ok (.ireturn, 1) := by decide +kernel
set_option maxRecDepth 20000 in
theorem ggX7_begin_X7_draw : GoodIn wsX7_begin wsX7_draw := goodIn_r _ [9, 10, 11, 12, 13, 14, 15, 16, 17, 18, 19, 20, 21, 22, 23, 24, 25, 26, 27, 28, 29, 30, 31, 32, 33, 34, 35, 36, 37, 38, 39, 40, 41, 42, 43, 44, 45, 46, 47, 48, 49, 50, 51, 52] (by decide +kernel) (by decide +kernel)
set_option maxRecDepth 20000 in
theorem gX7_begin_X7_draw : GoodIn wsX7_begin (wsV RX7 127 RX7 yX7_draw wsX7_draw) := goodIn_app (goodIn_of _ (by decide +kernel)) ggX7_begin_X7_draw
theorem dX7_begin_0 : decode cX7_begin 0 = .ok (.aload_n 0, 1) := by decide +kernel
theorem dX7_begin_1 : decode cX7_begin 1 = .ok (.getfield 53, 3) := by decide +kernel
theorem dX7_begin_4 : decode cX7_begin 4 = .ok (.iload_n 1, 1) := by decide +kernel
theorem dX7_begin_5 : decode cX7_begin 5 = .ok (.iload_n 2, 1) := by decide +kernel
theorem dX7_begin_6 : decode cX7_begin 6 = .ok (.iastore, 1) := by decide +kernel
theorem dX7_begin_7 : decode cX7_begin 7 = .ok (.aload_n 0, 1) := by decide +kernel
theorem dX7_begin_8 : decode cX7_begin 8 = .ok (.getfield 59, 3) := by decide +kernel
theorem dX7_begin_11 : decode cX7_begin 11 = .ok (.iload_n 1, 1) := by decide +kernel
theorem dX7_begin_12 : decode cX7_begin 12 = .ok (.iconst 0, 1) := by decide +kernel
theorem dX7_begin_13 : decode cX7_begin 13 = .ok (.iastore, 1) := by decide +kernel
theorem dX7_begin_14 : decode cX7_begin 14 = .ok (.aload_n 0, 1) := by decide +kernel
theorem dX7_begin_15 : decode cX7_begin 15 = .ok (.getfield 56, 3) := by decide +kernel
theorem dX7_begin_18 : decode cX7_begin 18 = .ok (.iload_n 1, 1) := by decide +kernel
theorem dX7_begin_19 : decode cX7_begin 19 = .ok (.iload_n 2, 1) := by decide +kernel
theorem dX7_begin_20 : decode cX7_begin 20 = .ok (.aload_n 0, 1) := by decide +kernel
theorem dX7_begin_21 : decode cX7_begin 21 = .ok (.getfield 50, 3) := by decide +kernel
theorem dX7_begin_24 : decode cX7_begin 24 = .ok (.iload_n 1, 1) := by decide +kernel
theorem dX7_begin_25 : decode cX7_begin 25 = .ok (.iaload, 1) := by decide +kernel
theorem dX7_begin_26 : decode cX7_begin 26 = .ok (.iconst 2, 1) := by decide +kernel
theorem dX7_begin_27 : decode cX7_begin 27 = .ok (.idiv, 1) := by decide +kernel
theorem dX7_begin_28 : decode cX7_begin 28 = .ok (.iadd, 1) := by decide +kernel
theorem dX7_begin_29 : decode cX7_begin 29 = .ok (.aload_n 0, 1) := by decide +kernel
theorem dX7_begin_30 : decode cX7_begin 30 = .ok (.aload_n 0, 1) := by decide +kernel
theorem dX7_begin_31 : decode cX7_begin 31 = .ok (.getfield 50, 3) := by decide +kernel
theorem dX7_begin_34 : decode cX7_begin 34 = .ok (.iload_n 1, 1) := by decide +kernel
theorem dX7_begin_35 : decode cX7_begin 35 = .ok (.iaload, 1) := by decide +kernel
theorem dX7_begin_36 : decode cX7_begin 36 = .ok (.aload_n 0, 1) := by decide +kernel
theorem dX7_begin_37 : decode cX7_begin 37 = .ok (.getfield 50, 3) := by decide +kernel
theorem dX7_begin_40 : decode cX7_begin 40 = .ok (.iload_n 1, 1) := by decide +kernel
theorem dX7_begin_41 : decode cX7_begin 41 = .ok (.iaload, 1) := by decide +kernel
theorem dX7_begin_42 : decode cX7_begin 42 = .ok (.iconst 2, 1) := by decide +kernel
theorem dX7_begin_43 : decode cX7_begin 43 = .ok (.idiv, 1) := by decide +kernel
theorem dX7_begin_44 : decode cX7_begin 44 = .ok (.isub, 1) := by decide +kernel
theorem dX7_begin_45 : decode cX7_begin 45 = .ok (.invokevirtual 127, 3) := by decide +kernel
theorem dX7_begin_48 : decode cX7_begin 48 = .ok (.iadd, 1) := by decide +kernel
theorem dX7_begin_49 : decode cX7_begin 49 = .ok (.iastore, 1) := by decide +kernel
theorem dX7_begin_50 : decode cX7_begin 50 = .ok (.return_, 1) := by decide +kernel
set_option maxRecDepth 20000 in
theorem ggX7_machine_X7_begin : GoodIn wsX7_machine wsX7_begin := goodIn_r _ [10, 11, 12, 13, 2, 14, 15, 16, 9, 17, 18, 19, 20, 21, 22, 23, 24, 25, 26, 27, 28, 29, 30, 31, 32, 33, 34, 35, 36, 37, 38, 39, 40, 41, 42, 43, 44, 45, 46, 47, 48, 49, 50, 51, 52, 53, 54, 55, 56, 57, 58, 59, 60] (by decide +kernel) (by decide +kernel)
set_option maxRecDepth 20000 in
theorem gX7_machine_X7_begin : GoodIn wsX7_machine (wsV RX7 134 RX7 yX7_begin wsX7_begin) := goodIn_app (goodIn_of _ (by decide +kernel)) ggX7_machine_X7_begin
theorem dX7_machine_0 : decode cX7_machine 0 = .ok (.aload_n 0, 1) := by decide +kernel
theorem dX7_machine_1 : decode cX7_machine 1 = .ok (.getfield 119, 3) := by decide +kernel
theorem dX7_machine_4 : decode cX7_machine 4 = .ok (.bipush 12, 2) := by decide +kernel
theorem dX7_machine_6 : decode cX7_machine 6 = .ok (.if_icmp .ne 5, 3) := by decide +kernel
theorem dX7_machine_9 : decode cX7_machine 9 = .ok (.iconst (-1), 1) := by decide +kernel
theorem dX7_machine_10 : decode cX7_machine 10 = .ok (.ireturn, 1) := by decide +kernel
theorem dX7_machine_11 : decode cX7_machine 11 = .ok (.aload_n 0, 1) := by decide +kernel
theorem dX7_machine_12 : decode cX7_machine 12 = .ok (.getfield 119, 3) := by decide +kernel
theorem dX7_machine_15 : decode cX7_machine 15 = .ok (.istore_n 1, 1) := by decide +kernel
theorem dX7_machine_16 : decode cX7_machine 16 = .ok (.aload_n 0, 1) := by decide +kernel
theorem dX7_machine_17 : decode cX7_machine 17 = .ok (.dup, 1) := by decide +kernel
theorem dX7_machine_18 : decode cX7_machine 18 = .ok (.getfield 119, 3) := by decide +kernel
theorem dX7_machine_21 : decode cX7_machine 21 = .ok (.iconst 1, 1) := by decide +kernel
theorem dX7_machine_22 : decode cX7_machine 22 = .ok (.iadd, 1) := by decide +kernel
theorem dX7_machine_23 : decode cX7_machine 23 = .ok (.putfield 119, 3) := by decide +kernel
theorem dX7_machine_26 : decode cX7_machine 26 = .ok (.aload_n 0, 1) := by decide +kernel
theorem dX7_machine_27 : decode cX7_machine 27 = .ok (.getfield 50, 3) := by decide +kernel
theorem dX7_machine_30 : decode cX7_machine 30 = .ok (.iload_n 1, 1) := by decide +kernel
theorem dX7_machine_31 : decode cX7_machine 31 = .ok (.aload_n 0, 1) := by decide +kernel
theorem dX7_machine_32 : decode cX7_machine 32 = .ok (.getfield 16, 3) := by decide +kernel
theorem dX7_machine_35 : decode cX7_machine 35 = .ok (.iastore, 1) := by decide +kernel
end
section
theorem dX7_machine_36 : decode cX7_machine 36 = .ok (.aload_n 0, 1) := by decide +kernel
theorem dX7_machine_37 : decode cX7_machine 37 = .ok (.getfield 62, 3) := by decide +kernel
theorem dX7_machine_40 : decode cX7_machine 40 = .ok (.iload_n 1, 1) := by decide +kernel
theorem dX7_machine_41 : decode cX7_machine 41 = .ok (.iconst (-1), 1) := by decide +kernel
theorem dX7_machine_42 : decode cX7_machine 42 = .ok (.iastore, 1) := by decide +kernel
theorem dX7_machine_43 : decode cX7_machine 43 = .ok (.aload_n 0, 1) := by decide +kernel
theorem dX7_machine_44 : decode cX7_machine 44 = .ok (.iload_n 1, 1) := by decide +kernel
theorem dX7_machine_45 : decode cX7_machine 45 = .ok (.aload_n 0, 1) := by decide +kernel
theorem dX7_machine_46 : decode cX7_machine 46 = .ok (.getfield 131, 3) := by decide +kernel
theorem dX7_machine_49 : decode cX7_machine 49 = .ok (.invokevirtual 134, 3) := by decide +kernel
theorem dX7_machine_52 : decode cX7_machine 52 = .ok (.iload_n 1, 1) := by decide +kernel
theorem dX7_machine_53 : decode cX7_machine 53 = .ok (.ireturn, 1) := by decide +kernel
set_option maxRecDepth 20000 in
theorem ggX7_hears_X7_isMachine : GoodIn wsX7_hears wsX7_isMachine := goodIn_r _ [6, 7, 8, 9, 5, 10, 11, 12, 13, 14, 15, 16, 17, 18, 19, 20, 21, 22, 23, 24, 25, 26, 27, 28, 29, 30, 31, 32, 33, 34, 35, 36, 37, 38, 39, 40, 41, 42, 43, 44, 45, 46, 47, 48, 49, 50, 51] (by decide +kernel) (by decide +kernel)
set_option maxRecDepth 20000 in
theorem gX7_hears_X7_isMachine : GoodIn wsX7_hears (wsV RX7 138 RX7 yX7_isMachine wsX7_isMachine) := goodIn_app (goodIn_of _ (by decide +kernel)) ggX7_hears_X7_isMachine
set_option maxRecDepth 20000 in
theorem ggX7_hears_X7_isIn : GoodIn wsX7_hears wsX7_isIn := goodIn_r _ [10] (by decide +kernel) (by decide +kernel)
set_option maxRecDepth 20000 in
theorem gX7_hears_X7_isIn : GoodIn wsX7_hears (va_wsS RX7 122 yX7_isIn wsX7_isIn) := goodIn_app (goodIn_of _ (by decide +kernel)) ggX7_hears_X7_isIn
theorem dX7_hears_0 : decode cX7_hears 0 = .ok (.aload_n 0, 1) := by decide +kernel
theorem dX7_hears_1 : decode cX7_hears 1 = .ok (.iload_n 1, 1) := by decide +kernel
theorem dX7_hears_2 : decode cX7_hears 2 = .ok (.invokevirtual 138, 3) := by decide +kernel
theorem dX7_hears_5 : decode cX7_hears 5 = .ok (.ifCond .eq 26, 3) := by decide +kernel
theorem dX7_hears_8 : decode cX7_hears 8 = .ok (.aload_n 0, 1) := by decide +kernel
theorem dX7_hears_9 : decode cX7_hears 9 = .ok (.iload_n 2, 1) := by decide +kernel
theorem dX7_hears_10 : decode cX7_hears 10 = .ok (.invokevirtual 138, 3) := by decide +kernel
theorem dX7_hears_13 : decode cX7_hears 13 = .ok (.ifCond .eq 18, 3) := by decide +kernel
theorem dX7_hears_16 : decode cX7_hears 16 = .ok (.iload_n 1, 1) := by decide +kernel
theorem dX7_hears_17 : decode cX7_hears 17 = .ok (.iload_n 2, 1) := by decide +kernel
theorem dX7_hears_18 : decode cX7_hears 18 = .ok (.if_icmp .eq 13, 3) := by decide +kernel
theorem dX7_hears_21 : decode cX7_hears 21 = .ok (.iload_n 3, 1) := by decide +kernel
theorem dX7_hears_22 : decode cX7_hears 22 = .ok (.iconst (-1), 1) := by decide +kernel
theorem dX7_hears_23 : decode cX7_hears 23 = .ok (.bipush 100, 2) := by decide +kernel
theorem dX7_hears_25 : decode cX7_hears 25 = .ok (.invokestatic 122, 3) := by decide +kernel
theorem dX7_hears_28 : decode cX7_hears 28 = .ok (.ifCond .ne 5, 3) := by decide +kernel
theorem dX7_hears_31 : decode cX7_hears 31 = .ok (.iconst 0, 1) := by decide +kernel
theorem dX7_hears_32 : decode cX7_hears 32 = .ok (.ireturn, 1) := by decide +kernel
theorem dX7_hears_33 : decode cX7_hears 33 = .ok (.aload_n 0, 1) := by decide +kernel
theorem dX7_hears_34 : decode cX7_hears 34 = .ok (.getfield 29, 3) := by decide +kernel
theorem dX7_hears_37 : decode cX7_hears 37 = .ok (.bipush 12, 2) := by decide +kernel
theorem dX7_hears_39 : decode cX7_hears 39 = .ok (.iload_n 1, 1) := by decide +kernel
theorem dX7_hears_40 : decode cX7_hears 40 = .ok (.imul, 1) := by decide +kernel
theorem dX7_hears_41 : decode cX7_hears 41 = .ok (.iload_n 2, 1) := by decide +kernel
theorem dX7_hears_42 : decode cX7_hears 42 = .ok (.iadd, 1) := by decide +kernel
theorem dX7_hears_43 : decode cX7_hears 43 = .ok (.iload_n 3, 1) := by decide +kernel
theorem dX7_hears_44 : decode cX7_hears 44 = .ok (.iastore, 1) := by decide +kernel
theorem dX7_hears_45 : decode cX7_hears 45 = .ok (.iconst 1, 1) := by decide +kernel
theorem dX7_hears_46 : decode cX7_hears 46 = .ok (.ireturn, 1) := by decide +kernel
theorem dX7_piece_0 : decode cX7_piece 0 = .ok (.aload_n 0, 1) := by decide +kernel
theorem dX7_piece_1 : decode cX7_piece 1 = .ok (.getfield 142, 3) := by decide +kernel
theorem dX7_piece_4 : decode cX7_piece 4 = .ok (.bipush 12, 2) := by decide +kernel
theorem dX7_piece_6 : decode cX7_piece 6 = .ok (.if_icmp .ne 5, 3) := by decide +kernel
theorem dX7_piece_9 : decode cX7_piece 9 = .ok (.iconst (-1), 1) := by decide +kernel
theorem dX7_piece_10 : decode cX7_piece 10 = .ok (.ireturn, 1) := by decide +kernel
theorem dX7_piece_11 : decode cX7_piece 11 = .ok (.aload_n 0, 1) := by decide +kernel
theorem dX7_piece_12 : decode cX7_piece 12 = .ok (.getfield 25, 3) := by decide +kernel
theorem dX7_piece_15 : decode cX7_piece 15 = .ok (.aload_n 0, 1) := by decide +kernel
theorem dX7_piece_16 : decode cX7_piece 16 = .ok (.getfield 142, 3) := by decide +kernel
theorem dX7_piece_19 : decode cX7_piece 19 = .ok (.iload_n 1, 1) := by decide +kernel
theorem dX7_piece_20 : decode cX7_piece 20 = .ok (.iastore, 1) := by decide +kernel
theorem dX7_piece_21 : decode cX7_piece 21 = .ok (.aload_n 0, 1) := by decide +kernel
theorem dX7_piece_22 : decode cX7_piece 22 = .ok (.dup, 1) := by decide +kernel
theorem dX7_piece_23 : decode cX7_piece 23 = .ok (.getfield 142, 3) := by decide +kernel
theorem dX7_piece_26 : decode cX7_piece 26 = .ok (.iconst 1, 1) := by decide +kernel
theorem dX7_piece_27 : decode cX7_piece 27 = .ok (.iadd, 1) := by decide +kernel
theorem dX7_piece_28 : decode cX7_piece 28 = .ok (.putfield 142, 3) := by decide +kernel
theorem dX7_piece_31 : decode cX7_piece 31 = .ok (.aload_n 0, 1) := by decide +kernel
theorem dX7_piece_32 : decode cX7_piece 32 = .ok (.getfield 142, 3) := by decide +kernel
theorem dX7_piece_35 : decode cX7_piece 35 = .ok (.ireturn, 1) := by decide +kernel
theorem dX7_rank_0 : decode cX7_rank 0 = .ok (.iconst 0, 1) := by decide +kernel
theorem dX7_rank_1 : decode cX7_rank 1 = .ok (.istore_n 2, 1) := by decide +kernel
theorem dX7_rank_2 : decode cX7_rank 2 = .ok (.iconst 0, 1) := by decide +kernel
theorem dX7_rank_3 : decode cX7_rank 3 = .ok (.istore_n 3, 1) := by decide +kernel
theorem dX7_rank_4 : decode cX7_rank 4 = .ok (.iload_n 3, 1) := by decide +kernel
theorem dX7_rank_5 : decode cX7_rank 5 = .ok (.bipush 12, 2) := by decide +kernel
theorem dX7_rank_7 : decode cX7_rank 7 = .ok (.if_icmp .ge 31, 3) := by decide +kernel
theorem dX7_rank_10 : decode cX7_rank 10 = .ok (.iload_n 2, 1) := by decide +kernel
theorem dX7_rank_11 : decode cX7_rank 11 = .ok (.aload_n 0, 1) := by decide +kernel
theorem dX7_rank_12 : decode cX7_rank 12 = .ok (.getfield 41, 3) := by decide +kernel
theorem dX7_rank_15 : decode cX7_rank 15 = .ok (.bipush 12, 2) := by decide +kernel
theorem dX7_rank_17 : decode cX7_rank 17 = .ok (.iload_n 1, 1) := by decide +kernel
theorem dX7_rank_18 : decode cX7_rank 18 = .ok (.imul, 1) := by decide +kernel
theorem dX7_rank_19 : decode cX7_rank 19 = .ok (.iload_n 3, 1) := by decide +kernel
theorem dX7_rank_20 : decode cX7_rank 20 = .ok (.iadd, 1) := by decide +kernel
theorem dX7_rank_21 : decode cX7_rank 21 = .ok (.iaload, 1) := by decide +kernel
theorem dX7_rank_22 : decode cX7_rank 22 = .ok (.ifCond .eq 7, 3) := by decide +kernel
theorem dX7_rank_25 : decode cX7_rank 25 = .ok (.iconst 1, 1) := by decide +kernel
theorem dX7_rank_26 : decode cX7_rank 26 = .ok (.goto 4, 3) := by decide +kernel
theorem dX7_rank_29 : decode cX7_rank 29 = .ok (.iconst 0, 1) := by decide +kernel
theorem dX7_rank_30 : decode cX7_rank 30 = .ok (.iadd, 1) := by decide +kernel
theorem dX7_rank_31 : decode cX7_rank 31 = .ok (.istore_n 2, 1) := by decide +kernel
theorem dX7_rank_32 : decode cX7_rank 32 = .ok (.iinc 3 1, 3) := by decide +kernel
theorem dX7_rank_35 : decode cX7_rank 35 = .ok (.goto (-31), 3) := by decide +kernel
theorem dX7_rank_38 : decode cX7_rank 38 = .ok (.iload_n 2, 1) := by decide +kernel
theorem dX7_rank_39 : decode cX7_rank 39 = .ok (.ireturn, 1) := by decide +kernel
set_option maxRecDepth 20000 in
theorem ggX7_isWhole_X7_rank : GoodIn wsX7_isWhole wsX7_rank := goodIn_r _ [7, 8, 9, 10, 11, 12, 13, 14, 15, 16, 17, 18, 19, 20, 21, 22, 23, 24, 25, 26, 27, 28, 29, 30, 31, 32, 33, 34, 35, 36, 37, 38, 39, 40, 41, 42, 43, 44, 45, 46, 47, 48, 49] (by decide +kernel) (by decide +kernel)
set_option maxRecDepth 20000 in
theorem gX7_isWhole_X7_rank : GoodIn wsX7_isWhole (wsV RX7 145 RX7 yX7_rank wsX7_rank) := goodIn_app (goodIn_of _ (by decide +kernel)) ggX7_isWhole_X7_rank
theorem dX7_isWhole_0 : decode cX7_isWhole 0 = .ok (.aload_n 0, 1) := by decide +kernel
theorem dX7_isWhole_1 : decode cX7_isWhole 1 = .ok (.getfield 32, 3) := by decide +kernel
theorem dX7_isWhole_4 : decode cX7_isWhole 4 = .ok (.iload_n 1, 1) := by decide +kernel
theorem dX7_isWhole_5 : decode cX7_isWhole 5 = .ok (.iaload, 1) := by decide +kernel
theorem dX7_isWhole_6 : decode cX7_isWhole 6 = .ok (.ifCond .le 21, 3) := by decide +kernel
theorem dX7_isWhole_9 : decode cX7_isWhole 9 = .ok (.aload_n 0, 1) := by decide +kernel
theorem dX7_isWhole_10 : decode cX7_isWhole 10 = .ok (.iload_n 1, 1) := by decide +kernel
theorem dX7_isWhole_11 : decode cX7_isWhole 11 = .ok (.invokevirtual 145, 3) := by decide +kernel
theorem dX7_isWhole_14 : decode cX7_isWhole 14 = .ok (.aload_n 0, 1) := by decide +kernel
theorem dX7_isWhole_15 : decode cX7_isWhole 15 = .ok (.getfield 35, 3) := by decide +kernel
theorem dX7_isWhole_18 : decode cX7_isWhole 18 = .ok (.iload_n 1, 1) := by decide +kernel
theorem dX7_isWhole_19 : decode cX7_isWhole 19 = .ok (.iaload, 1) := by decide +kernel
theorem dX7_isWhole_20 : decode cX7_isWhole 20 = .ok (.if_icmp .ne 7, 3) := by decide +kernel
theorem dX7_isWhole_23 : decode cX7_isWhole 23 = .ok (.iconst 1, 1) := by decide +kernel
theorem dX7_isWhole_24 : decode cX7_isWhole 24 = .ok (.goto 4, 3) := by decide +kernel
theorem dX7_isWhole_27 : decode cX7_isWhole 27 = .ok (.iconst 0, 1) := by decide +kernel
theorem dX7_isWhole_28 : decode cX7_isWhole 28 = .ok (.ireturn, 1) := by decide +kernel
theorem dX7_empty_0 : decode cX7_empty 0 = .ok (.iconst 0, 1) := by decide +kernel
theorem dX7_empty_1 : decode cX7_empty 1 = .ok (.istore_n 2, 1) := by decide +kernel
theorem dX7_empty_2 : decode cX7_empty 2 = .ok (.iload_n 2, 1) := by decide +kernel
theorem dX7_empty_3 : decode cX7_empty 3 = .ok (.bipush 12, 2) := by decide +kernel
theorem dX7_empty_5 : decode cX7_empty 5 = .ok (.if_icmp .ge 33, 3) := by decide +kernel
theorem dX7_empty_8 : decode cX7_empty 8 = .ok (.aload_n 0, 1) := by decide +kernel
theorem dX7_empty_9 : decode cX7_empty 9 = .ok (.getfield 41, 3) := by decide +kernel
theorem dX7_empty_12 : decode cX7_empty 12 = .ok (.bipush 12, 2) := by decide +kernel
theorem dX7_empty_14 : decode cX7_empty 14 = .ok (.iload_n 1, 1) := by decide +kernel
theorem dX7_empty_15 : decode cX7_empty 15 = .ok (.imul, 1) := by decide +kernel
theorem dX7_empty_16 : decode cX7_empty 16 = .ok (.iload_n 2, 1) := by decide +kernel
theorem dX7_empty_17 : decode cX7_empty 17 = .ok (.iadd, 1) := by decide +kernel
theorem dX7_empty_18 : decode cX7_empty 18 = .ok (.iconst 0, 1) := by decide +kernel
theorem dX7_empty_19 : decode cX7_empty 19 = .ok (.iastore, 1) := by decide +kernel
theorem dX7_empty_20 : decode cX7_empty 20 = .ok (.aload_n 0, 1) := by decide +kernel
theorem dX7_empty_21 : decode cX7_empty 21 = .ok (.getfield 44, 3) := by decide +kernel
theorem dX7_empty_24 : decode cX7_empty 24 = .ok (.bipush 12, 2) := by decide +kernel
theorem dX7_empty_26 : decode cX7_empty 26 = .ok (.iload_n 1, 1) := by decide +kernel
theorem dX7_empty_27 : decode cX7_empty 27 = .ok (.imul, 1) := by decide +kernel
theorem dX7_empty_28 : decode cX7_empty 28 = .ok (.iload_n 2, 1) := by decide +kernel
theorem dX7_empty_29 : decode cX7_empty 29 = .ok (.iadd, 1) := by decide +kernel
theorem dX7_empty_30 : decode cX7_empty 30 = .ok (.iconst 0, 1) := by decide +kernel
theorem dX7_empty_31 : decode cX7_empty 31 = .ok (.iastore, 1) := by decide +kernel
theorem dX7_empty_32 : decode cX7_empty 32 = .ok (.iinc 2 1, 3) := by decide +kernel
theorem dX7_empty_35 : decode cX7_empty 35 = .ok (.goto (-33), 3) := by decide +kernel
theorem dX7_empty_38 : decode cX7_empty 38 = .ok (.return_, 1) := by decide +kernel
set_option maxRecDepth 20000 in
theorem ggX7_comesIn_X7_rank : GoodIn wsX7_comesIn wsX7_rank := goodIn_r _ [10, 1, 19, 20, 21, 22, 23, 24, 25, 26, 27, 28, 29, 30, 31, 32, 33, 34, 35, 36, 37, 38, 39, 40, 41, 42, 43, 44, 45, 46, 47, 48, 49, 50, 51, 52, 53, 54, 55, 56, 57, 58, 59] (by decide +kernel) (by decide +kernel)
set_option maxRecDepth 20000 in
theorem gX7_comesIn_X7_rank : GoodIn wsX7_comesIn (wsV RX7 145 RX7 yX7_rank wsX7_rank) := goodIn_app (goodIn_of _ (by decide +kernel)) ggX7_comesIn_X7_rank
set_option maxRecDepth 20000 in
theorem ggX7_comesIn_X7_sumOf : GoodIn wsX7_comesIn wsX7_sumOf := goodIn_r _ [14, 2, 19, 20, 21, 22, 23, 24, 25, 26, 27, 28, 29, 30, 31, 32, 33, 34, 35, 36, 37, 38, 39, 40, 41, 42, 43, 44, 45, 46, 47, 48, 49, 50, 51, 52, 53, 54, 55, 56, 57, 58, 59] (by decide +kernel) (by decide +kernel)
set_option maxRecDepth 20000 in
theorem gX7_comesIn_X7_sumOf : GoodIn wsX7_comesIn (wsV RX7 148 RX7 yX7_sumOf wsX7_sumOf) := goodIn_app (goodIn_of _ (by decide +kernel)) ggX7_comesIn_X7_sumOf
set_option maxRecDepth 20000 in
theorem ggX7_comesIn_X7_empty : GoodIn wsX7_comesIn wsX7_empty := goodIn_r _ [18, 1, 2, 19, 20, 21, 22, 23, 24, 25, 26, 27, 28, 29, 30, 31, 32, 33, 34, 35, 36, 37, 38, 39, 40, 41, 42, 43, 44, 45, 46, 47, 48, 49, 50, 51, 52, 53, 54, 55, 56, 57, 58, 59] (by decide +kernel) (by decide +kernel)
set_option maxRecDepth 20000 in
theorem gX7_comesIn_X7_empty : GoodIn wsX7_comesIn (wsV RX7 151 RX7 yX7_empty wsX7_empty) := goodIn_app (goodIn_of _ (by decide +kernel)) ggX7_comesIn_X7_empty
theorem dX7_comesIn_0 : decode cX7_comesIn 0 = .ok (.iload_n 2, 1) := by decide +kernel
theorem dX7_comesIn_1 : decode cX7_comesIn 1 = .ok (.istore 4, 2) := by decide +kernel
theorem dX7_comesIn_3 : decode cX7_comesIn 3 = .ok (.iload_n 3, 1) := by decide +kernel
theorem dX7_comesIn_4 : decode cX7_comesIn 4 = .ok (.istore 5, 2) := by decide +kernel
theorem dX7_comesIn_6 : decode cX7_comesIn 6 = .ok (.iconst 0, 1) := by decide +kernel
theorem dX7_comesIn_7 : decode cX7_comesIn 7 = .ok (.istore 6, 2) := by decide +kernel
theorem dX7_comesIn_9 : decode cX7_comesIn 9 = .ok (.iload 6, 2) := by decide +kernel
theorem dX7_comesIn_11 : decode cX7_comesIn 11 = .ok (.bipush 12, 2) := by decide +kernel
theorem dX7_comesIn_13 : decode cX7_comesIn 13 = .ok (.if_icmp .ge 71, 3) := by decide +kernel
theorem dX7_comesIn_16 : decode cX7_comesIn 16 = .ok (.aload_n 0, 1) := by decide +kernel
theorem dX7_comesIn_17 : decode cX7_comesIn 17 = .ok (.getfield 41, 3) := by decide +kernel
theorem dX7_comesIn_20 : decode cX7_comesIn 20 = .ok (.bipush 12, 2) := by decide +kernel
theorem dX7_comesIn_22 : decode cX7_comesIn 22 = .ok (.iload_n 1, 1) := by decide +kernel
theorem dX7_comesIn_23 : decode cX7_comesIn 23 = .ok (.imul, 1) := by decide +kernel
theorem dX7_comesIn_24 : decode cX7_comesIn 24 = .ok (.iload 6, 2) := by decide +kernel
theorem dX7_comesIn_26 : decode cX7_comesIn 26 = .ok (.iadd, 1) := by decide +kernel
theorem dX7_comesIn_27 : decode cX7_comesIn 27 = .ok (.iaload, 1) := by decide +kernel
theorem dX7_comesIn_28 : decode cX7_comesIn 28 = .ok (.ifCond .eq 50, 3) := by decide +kernel
theorem dX7_comesIn_31 : decode cX7_comesIn 31 = .ok (.iload 4, 2) := by decide +kernel
theorem dX7_comesIn_33 : decode cX7_comesIn 33 = .ok (.iload 6, 2) := by decide +kernel
theorem dX7_comesIn_35 : decode cX7_comesIn 35 = .ok (.ishr, 1) := by decide +kernel
theorem dX7_comesIn_36 : decode cX7_comesIn 36 = .ok (.iconst 1, 1) := by decide +kernel
theorem dX7_comesIn_37 : decode cX7_comesIn 37 = .ok (.iand, 1) := by decide +kernel
theorem dX7_comesIn_38 : decode cX7_comesIn 38 = .ok (.ifCond .ne 6, 3) := by decide +kernel
theorem dX7_comesIn_41 : decode cX7_comesIn 41 = .ok (.goto 37, 3) := by decide +kernel
theorem dX7_comesIn_44 : decode cX7_comesIn 44 = .ok (.iload 4, 2) := by decide +kernel
theorem dX7_comesIn_46 : decode cX7_comesIn 46 = .ok (.aload_n 0, 1) := by decide +kernel
theorem dX7_comesIn_47 : decode cX7_comesIn 47 = .ok (.getfield 41, 3) := by decide +kernel
theorem dX7_comesIn_50 : decode cX7_comesIn 50 = .ok (.bipush 12, 2) := by decide +kernel
theorem dX7_comesIn_52 : decode cX7_comesIn 52 = .ok (.iload_n 1, 1) := by decide +kernel
theorem dX7_comesIn_53 : decode cX7_comesIn 53 = .ok (.imul, 1) := by decide +kernel
theorem dX7_comesIn_54 : decode cX7_comesIn 54 = .ok (.iload 6, 2) := by decide +kernel
theorem dX7_comesIn_56 : decode cX7_comesIn 56 = .ok (.iadd, 1) := by decide +kernel
theorem dX7_comesIn_57 : decode cX7_comesIn 57 = .ok (.iaload, 1) := by decide +kernel
theorem dX7_comesIn_58 : decode cX7_comesIn 58 = .ok (.ixor, 1) := by decide +kernel
theorem dX7_comesIn_59 : decode cX7_comesIn 59 = .ok (.istore 4, 2) := by decide +kernel
theorem dX7_comesIn_61 : decode cX7_comesIn 61 = .ok (.iload 5, 2) := by decide +kernel
theorem dX7_comesIn_63 : decode cX7_comesIn 63 = .ok (.aload_n 0, 1) := by decide +kernel
theorem dX7_comesIn_64 : decode cX7_comesIn 64 = .ok (.getfield 44, 3) := by decide +kernel
theorem dX7_comesIn_67 : decode cX7_comesIn 67 = .ok (.bipush 12, 2) := by decide +kernel
theorem dX7_comesIn_69 : decode cX7_comesIn 69 = .ok (.iload_n 1, 1) := by decide +kernel
theorem dX7_comesIn_70 : decode cX7_comesIn 70 = .ok (.imul, 1) := by decide +kernel
theorem dX7_comesIn_71 : decode cX7_comesIn 71 = .ok (.iload 6, 2) := by decide +kernel
theorem dX7_comesIn_73 : decode cX7_comesIn 73 = .ok (.iadd, 1) := by decide +kernel
theorem dX7_comesIn_74 : decode cX7_comesIn 74 = .ok (.iaload, 1) := by decide +kernel
theorem dX7_comesIn_75 : decode cX7_comesIn 75 = .ok (.ixor, 1) := by decide +kernel
theorem dX7_comesIn_76 : decode cX7_comesIn 76 = .ok (.istore 5, 2) := by decide +kernel
theorem dX7_comesIn_78 : decode cX7_comesIn 78 = .ok (.iinc 6 1, 3) := by decide +kernel
theorem dX7_comesIn_81 : decode cX7_comesIn 81 = .ok (.goto (-72), 3) := by decide +kernel
theorem dX7_comesIn_84 : decode cX7_comesIn 84 = .ok (.iload 4, 2) := by decide +kernel
theorem dX7_comesIn_86 : decode cX7_comesIn 86 = .ok (.ifCond .ne 5, 3) := by decide +kernel
theorem dX7_comesIn_89 : decode cX7_comesIn 89 = .ok (.iconst 0, 1) := by decide +kernel
theorem dX7_comesIn_90 : decode cX7_comesIn 90 = .ok (.ireturn, 1) := by decide +kernel
theorem dX7_comesIn_91 : decode cX7_comesIn 91 = .ok (.bipush 11, 2) := by decide +kernel
theorem dX7_comesIn_93 : decode cX7_comesIn 93 = .ok (.istore 6, 2) := by decide +kernel
theorem dX7_comesIn_95 : decode cX7_comesIn 95 = .ok (.iload 4, 2) := by decide +kernel
theorem dX7_comesIn_97 : decode cX7_comesIn 97 = .ok (.iload 6, 2) := by decide +kernel
theorem dX7_comesIn_99 : decode cX7_comesIn 99 = .ok (.ishr, 1) := by decide +kernel
theorem dX7_comesIn_100 : decode cX7_comesIn 100 = .ok (.iconst 1, 1) := by decide +kernel
theorem dX7_comesIn_101 : decode cX7_comesIn 101 = .ok (.iand, 1) := by decide +kernel
theorem dX7_comesIn_102 : decode cX7_comesIn 102 = .ok (.ifCond .ne 9, 3) := by decide +kernel
theorem dX7_comesIn_105 : decode cX7_comesIn 105 = .ok (.iinc 6 (-1), 3) := by decide +kernel
theorem dX7_comesIn_108 : decode cX7_comesIn 108 = .ok (.goto (-13), 3) := by decide +kernel
theorem dX7_comesIn_111 : decode cX7_comesIn 111 = .ok (.iconst 0, 1) := by decide +kernel
theorem dX7_comesIn_112 : decode cX7_comesIn 112 = .ok (.istore 7, 2) := by decide +kernel
theorem dX7_comesIn_114 : decode cX7_comesIn 114 = .ok (.iload 7, 2) := by decide +kernel
theorem dX7_comesIn_116 : decode cX7_comesIn 116 = .ok (.bipush 12, 2) := by decide +kernel
theorem dX7_comesIn_118 : decode cX7_comesIn 118 = .ok (.if_icmp .ge 66, 3) := by decide +kernel
theorem dX7_comesIn_121 : decode cX7_comesIn 121 = .ok (.aload_n 0, 1) := by decide +kernel
theorem dX7_comesIn_122 : decode cX7_comesIn 122 = .ok (.getfield 41, 3) := by decide +kernel
theorem dX7_comesIn_125 : decode cX7_comesIn 125 = .ok (.bipush 12, 2) := by decide +kernel
theorem dX7_comesIn_127 : decode cX7_comesIn 127 = .ok (.iload_n 1, 1) := by decide +kernel
theorem dX7_comesIn_128 : decode cX7_comesIn 128 = .ok (.imul, 1) := by decide +kernel
theorem dX7_comesIn_129 : decode cX7_comesIn 129 = .ok (.iload 7, 2) := by decide +kernel
theorem dX7_comesIn_131 : decode cX7_comesIn 131 = .ok (.iadd, 1) := by decide +kernel
theorem dX7_comesIn_132 : decode cX7_comesIn 132 = .ok (.iaload, 1) := by decide +kernel
theorem dX7_comesIn_133 : decode cX7_comesIn 133 = .ok (.iload 6, 2) := by decide +kernel
theorem dX7_comesIn_135 : decode cX7_comesIn 135 = .ok (.ishr, 1) := by decide +kernel
theorem dX7_comesIn_136 : decode cX7_comesIn 136 = .ok (.iconst 1, 1) := by decide +kernel
theorem dX7_comesIn_137 : decode cX7_comesIn 137 = .ok (.iand, 1) := by decide +kernel
theorem dX7_comesIn_138 : decode cX7_comesIn 138 = .ok (.ifCond .ne 6, 3) := by decide +kernel
theorem dX7_comesIn_141 : decode cX7_comesIn 141 = .ok (.goto 37, 3) := by decide +kernel
theorem dX7_comesIn_144 : decode cX7_comesIn 144 = .ok (.aload_n 0, 1) := by decide +kernel
theorem dX7_comesIn_145 : decode cX7_comesIn 145 = .ok (.getfield 41, 3) := by decide +kernel
theorem dX7_comesIn_148 : decode cX7_comesIn 148 = .ok (.bipush 12, 2) := by decide +kernel
theorem dX7_comesIn_150 : decode cX7_comesIn 150 = .ok (.iload_n 1, 1) := by decide +kernel
theorem dX7_comesIn_151 : decode cX7_comesIn 151 = .ok (.imul, 1) := by decide +kernel
theorem dX7_comesIn_152 : decode cX7_comesIn 152 = .ok (.iload 7, 2) := by decide +kernel
theorem dX7_comesIn_154 : decode cX7_comesIn 154 = .ok (.iadd, 1) := by decide +kernel
theorem dX7_comesIn_155 : decode cX7_comesIn 155 = .ok (.dup2, 1) := by decide +kernel
theorem dX7_comesIn_156 : decode cX7_comesIn 156 = .ok (.iaload, 1) := by decide +kernel
theorem dX7_comesIn_157 : decode cX7_comesIn 157 = .ok (.iload 4, 2) := by decide +kernel
theorem dX7_comesIn_159 : decode cX7_comesIn 159 = .ok (.ixor, 1) := by decide +kernel
theorem dX7_comesIn_160 : decode cX7_comesIn 160 = .ok (.iastore, 1) := by decide +kernel
theorem dX7_comesIn_161 : decode cX7_comesIn 161 = .ok (.aload_n 0, 1) := by decide +kernel
theorem dX7_comesIn_162 : decode cX7_comesIn 162 = .ok (.getfield 44, 3) := by decide +kernel
theorem dX7_comesIn_165 : decode cX7_comesIn 165 = .ok (.bipush 12, 2) := by decide +kernel
theorem dX7_comesIn_167 : decode cX7_comesIn 167 = .ok (.iload_n 1, 1) := by decide +kernel
theorem dX7_comesIn_168 : decode cX7_comesIn 168 = .ok (.imul, 1) := by decide +kernel
theorem dX7_comesIn_169 : decode cX7_comesIn 169 = .ok (.iload 7, 2) := by decide +kernel
theorem dX7_comesIn_171 : decode cX7_comesIn 171 = .ok (.iadd, 1) := by decide +kernel
theorem dX7_comesIn_172 : decode cX7_comesIn 172 = .ok (.dup2, 1) := by decide +kernel
theorem dX7_comesIn_173 : decode cX7_comesIn 173 = .ok (.iaload, 1) := by decide +kernel
theorem dX7_comesIn_174 : decode cX7_comesIn 174 = .ok (.iload 5, 2) := by decide +kernel
theorem dX7_comesIn_176 : decode cX7_comesIn 176 = .ok (.ixor, 1) := by decide +kernel
theorem dX7_comesIn_177 : decode cX7_comesIn 177 = .ok (.iastore, 1) := by decide +kernel
theorem dX7_comesIn_178 : decode cX7_comesIn 178 = .ok (.iinc 7 1, 3) := by decide +kernel
theorem dX7_comesIn_181 : decode cX7_comesIn 181 = .ok (.goto (-67), 3) := by decide +kernel
theorem dX7_comesIn_184 : decode cX7_comesIn 184 = .ok (.aload_n 0, 1) := by decide +kernel
theorem dX7_comesIn_185 : decode cX7_comesIn 185 = .ok (.getfield 41, 3) := by decide +kernel
theorem dX7_comesIn_188 : decode cX7_comesIn 188 = .ok (.bipush 12, 2) := by decide +kernel
theorem dX7_comesIn_190 : decode cX7_comesIn 190 = .ok (.iload_n 1, 1) := by decide +kernel
theorem dX7_comesIn_191 : decode cX7_comesIn 191 = .ok (.imul, 1) := by decide +kernel
theorem dX7_comesIn_192 : decode cX7_comesIn 192 = .ok (.iload 6, 2) := by decide +kernel
theorem dX7_comesIn_194 : decode cX7_comesIn 194 = .ok (.iadd, 1) := by decide +kernel
theorem dX7_comesIn_195 : decode cX7_comesIn 195 = .ok (.iload 4, 2) := by decide +kernel
theorem dX7_comesIn_197 : decode cX7_comesIn 197 = .ok (.iastore, 1) := by decide +kernel
theorem dX7_comesIn_198 : decode cX7_comesIn 198 = .ok (.aload_n 0, 1) := by decide +kernel
theorem dX7_comesIn_199 : decode cX7_comesIn 199 = .ok (.getfield 44, 3) := by decide +kernel
theorem dX7_comesIn_202 : decode cX7_comesIn 202 = .ok (.bipush 12, 2) := by decide +kernel
theorem dX7_comesIn_204 : decode cX7_comesIn 204 = .ok (.iload_n 1, 1) := by decide +kernel
theorem dX7_comesIn_205 : decode cX7_comesIn 205 = .ok (.imul, 1) := by decide +kernel
theorem dX7_comesIn_206 : decode cX7_comesIn 206 = .ok (.iload 6, 2) := by decide +kernel
theorem dX7_comesIn_208 : decode cX7_comesIn 208 = .ok (.iadd, 1) := by decide +kernel
theorem dX7_comesIn_209 : decode cX7_comesIn 209 = .ok (.iload 5, 2) := by decide +kernel
theorem dX7_comesIn_211 : decode cX7_comesIn 211 = .ok (.iastore, 1) := by decide +kernel
theorem dX7_comesIn_212 : decode cX7_comesIn 212 = .ok (.aload_n 0, 1) := by decide +kernel
theorem dX7_comesIn_213 : decode cX7_comesIn 213 = .ok (.iload_n 1, 1) := by decide +kernel
theorem dX7_comesIn_214 : decode cX7_comesIn 214 = .ok (.invokevirtual 145, 3) := by decide +kernel
theorem dX7_comesIn_217 : decode cX7_comesIn 217 = .ok (.aload_n 0, 1) := by decide +kernel
theorem dX7_comesIn_218 : decode cX7_comesIn 218 = .ok (.getfield 35, 3) := by decide +kernel
theorem dX7_comesIn_221 : decode cX7_comesIn 221 = .ok (.iload_n 1, 1) := by decide +kernel
theorem dX7_comesIn_222 : decode cX7_comesIn 222 = .ok (.iaload, 1) := by decide +kernel
theorem dX7_comesIn_223 : decode cX7_comesIn 223 = .ok (.if_icmp .ne 32, 3) := by decide +kernel
theorem dX7_comesIn_226 : decode cX7_comesIn 226 = .ok (.aload_n 0, 1) := by decide +kernel
theorem dX7_comesIn_227 : decode cX7_comesIn 227 = .ok (.iload_n 1, 1) := by decide +kernel
theorem dX7_comesIn_228 : decode cX7_comesIn 228 = .ok (.invokevirtual 148, 3) := by decide +kernel
theorem dX7_comesIn_231 : decode cX7_comesIn 231 = .ok (.aload_n 0, 1) := by decide +kernel
theorem dX7_comesIn_232 : decode cX7_comesIn 232 = .ok (.getfield 38, 3) := by decide +kernel
theorem dX7_comesIn_235 : decode cX7_comesIn 235 = .ok (.iload_n 1, 1) := by decide +kernel
theorem dX7_comesIn_236 : decode cX7_comesIn 236 = .ok (.iaload, 1) := by decide +kernel
theorem dX7_comesIn_237 : decode cX7_comesIn 237 = .ok (.if_icmp .eq 18, 3) := by decide +kernel
theorem dX7_comesIn_240 : decode cX7_comesIn 240 = .ok (.aload_n 0, 1) := by decide +kernel
theorem dX7_comesIn_241 : decode cX7_comesIn 241 = .ok (.getfield 77, 3) := by decide +kernel
theorem dX7_comesIn_244 : decode cX7_comesIn 244 = .ok (.iload_n 1, 1) := by decide +kernel
theorem dX7_comesIn_245 : decode cX7_comesIn 245 = .ok (.dup2, 1) := by decide +kernel
theorem dX7_comesIn_246 : decode cX7_comesIn 246 = .ok (.iaload, 1) := by decide +kernel
theorem dX7_comesIn_247 : decode cX7_comesIn 247 = .ok (.iconst 1, 1) := by decide +kernel
theorem dX7_comesIn_248 : decode cX7_comesIn 248 = .ok (.iadd, 1) := by decide +kernel
theorem dX7_comesIn_249 : decode cX7_comesIn 249 = .ok (.iastore, 1) := by decide +kernel
theorem dX7_comesIn_250 : decode cX7_comesIn 250 = .ok (.aload_n 0, 1) := by decide +kernel
theorem dX7_comesIn_251 : decode cX7_comesIn 251 = .ok (.iload_n 1, 1) := by decide +kernel
theorem dX7_comesIn_252 : decode cX7_comesIn 252 = .ok (.invokevirtual 151, 3) := by decide +kernel
theorem dX7_comesIn_255 : decode cX7_comesIn 255 = .ok (.iconst 1, 1) := by decide +kernel
theorem dX7_comesIn_256 : decode cX7_comesIn 256 = .ok (.ireturn, 1) := by decide +kernel
theorem dX7_sumOf_0 : decode cX7_sumOf 0 = .ok (.iconst 0, 1) := by decide +kernel
theorem dX7_sumOf_1 : decode cX7_sumOf 1 = .ok (.istore_n 2, 1) := by decide +kernel
theorem dX7_sumOf_2 : decode cX7_sumOf 2 = .ok (.iconst 0, 1) := by decide +kernel
theorem dX7_sumOf_3 : decode cX7_sumOf 3 = .ok (.istore_n 3, 1) := by decide +kernel
theorem dX7_sumOf_4 : decode cX7_sumOf 4 = .ok (.iload_n 3, 1) := by decide +kernel
theorem dX7_sumOf_5 : decode cX7_sumOf 5 = .ok (.bipush 12, 2) := by decide +kernel
theorem dX7_sumOf_7 : decode cX7_sumOf 7 = .ok (.if_icmp .ge 27, 3) := by decide +kernel
theorem dX7_sumOf_10 : decode cX7_sumOf 10 = .ok (.iload_n 2, 1) := by decide +kernel
theorem dX7_sumOf_11 : decode cX7_sumOf 11 = .ok (.aload_n 0, 1) := by decide +kernel
theorem dX7_sumOf_12 : decode cX7_sumOf 12 = .ok (.getfield 44, 3) := by decide +kernel
theorem dX7_sumOf_15 : decode cX7_sumOf 15 = .ok (.bipush 12, 2) := by decide +kernel
theorem dX7_sumOf_17 : decode cX7_sumOf 17 = .ok (.iload_n 1, 1) := by decide +kernel
theorem dX7_sumOf_18 : decode cX7_sumOf 18 = .ok (.imul, 1) := by decide +kernel
theorem dX7_sumOf_19 : decode cX7_sumOf 19 = .ok (.iload_n 3, 1) := by decide +kernel
theorem dX7_sumOf_20 : decode cX7_sumOf 20 = .ok (.iadd, 1) := by decide +kernel
theorem dX7_sumOf_21 : decode cX7_sumOf 21 = .ok (.iaload, 1) := by decide +kernel
theorem dX7_sumOf_22 : decode cX7_sumOf 22 = .ok (.iload_n 3, 1) := by decide +kernel
theorem dX7_sumOf_23 : decode cX7_sumOf 23 = .ok (.iconst 1, 1) := by decide +kernel
theorem dX7_sumOf_24 : decode cX7_sumOf 24 = .ok (.iadd, 1) := by decide +kernel
theorem dX7_sumOf_25 : decode cX7_sumOf 25 = .ok (.imul, 1) := by decide +kernel
theorem dX7_sumOf_26 : decode cX7_sumOf 26 = .ok (.iadd, 1) := by decide +kernel
theorem dX7_sumOf_27 : decode cX7_sumOf 27 = .ok (.istore_n 2, 1) := by decide +kernel
theorem dX7_sumOf_28 : decode cX7_sumOf 28 = .ok (.iinc 3 1, 3) := by decide +kernel
theorem dX7_sumOf_31 : decode cX7_sumOf 31 = .ok (.goto (-27), 3) := by decide +kernel
theorem dX7_sumOf_34 : decode cX7_sumOf 34 = .ok (.iload_n 2, 1) := by decide +kernel
theorem dX7_sumOf_35 : decode cX7_sumOf 35 = .ok (.ireturn, 1) := by decide +kernel
set_option maxRecDepth 20000 in
theorem ggX7_stir_X7_begin : GoodIn wsX7_stir wsX7_begin := goodIn_r _ [8, 9, 10, 11, 1, 12, 13, 14, 7, 15, 16, 17, 18, 19, 20, 21, 22, 23, 24, 25, 26, 27, 28, 29, 30, 31, 32, 33, 34, 35, 36, 37, 38, 39, 40, 41, 42, 43, 44, 45, 46, 47, 48, 49, 50, 51, 52, 53, 54, 55, 56, 57, 58] (by decide +kernel) (by decide +kernel)
set_option maxRecDepth 20000 in
theorem gX7_stir_X7_begin : GoodIn wsX7_stir (wsV RX7 134 RX7 yX7_begin wsX7_begin) := goodIn_app (goodIn_of _ (by decide +kernel)) ggX7_stir_X7_begin
theorem dX7_stir_0 : decode cX7_stir 0 = .ok (.aload_n 0, 1) := by decide +kernel
theorem dX7_stir_1 : decode cX7_stir 1 = .ok (.getfield 50, 3) := by decide +kernel
theorem dX7_stir_4 : decode cX7_stir 4 = .ok (.iload_n 1, 1) := by decide +kernel
theorem dX7_stir_5 : decode cX7_stir 5 = .ok (.iaload, 1) := by decide +kernel
theorem dX7_stir_6 : decode cX7_stir 6 = .ok (.aload_n 0, 1) := by decide +kernel
theorem dX7_stir_7 : decode cX7_stir 7 = .ok (.getfield 16, 3) := by decide +kernel
theorem dX7_stir_10 : decode cX7_stir 10 = .ok (.if_icmp .gt 4, 3) := by decide +kernel
theorem dX7_stir_13 : decode cX7_stir 13 = .ok (.return_, 1) := by decide +kernel
theorem dX7_stir_14 : decode cX7_stir 14 = .ok (.aload_n 0, 1) := by decide +kernel
theorem dX7_stir_15 : decode cX7_stir 15 = .ok (.getfield 50, 3) := by decide +kernel
theorem dX7_stir_18 : decode cX7_stir 18 = .ok (.iload_n 1, 1) := by decide +kernel
theorem dX7_stir_19 : decode cX7_stir 19 = .ok (.aload_n 0, 1) := by decide +kernel
theorem dX7_stir_20 : decode cX7_stir 20 = .ok (.getfield 16, 3) := by decide +kernel
theorem dX7_stir_23 : decode cX7_stir 23 = .ok (.iastore, 1) := by decide +kernel
theorem dX7_stir_24 : decode cX7_stir 24 = .ok (.aload_n 0, 1) := by decide +kernel
theorem dX7_stir_25 : decode cX7_stir 25 = .ok (.iload_n 1, 1) := by decide +kernel
theorem dX7_stir_26 : decode cX7_stir 26 = .ok (.aload_n 0, 1) := by decide +kernel
theorem dX7_stir_27 : decode cX7_stir 27 = .ok (.getfield 131, 3) := by decide +kernel
theorem dX7_stir_30 : decode cX7_stir 30 = .ok (.iconst 1, 1) := by decide +kernel
theorem dX7_stir_31 : decode cX7_stir 31 = .ok (.iadd, 1) := by decide +kernel
theorem dX7_stir_32 : decode cX7_stir 32 = .ok (.invokevirtual 134, 3) := by decide +kernel
theorem dX7_stir_35 : decode cX7_stir 35 = .ok (.return_, 1) := by decide +kernel
set_option maxRecDepth 20000 in
theorem ggX7_load_X7_isMachine : GoodIn wsX7_load wsX7_isMachine := goodIn_r _ [12, 13, 14, 15, 11, 16, 45, 46, 47, 48, 49, 50, 51, 52, 53, 54, 55, 56, 57, 58, 59, 60, 61, 62, 63, 64, 65, 66, 67, 68, 69, 70, 71, 72, 73, 74, 75, 76, 77, 78, 79, 80, 81, 82, 83, 84, 85] (by decide +kernel) (by decide +kernel)
set_option maxRecDepth 20000 in
theorem gX7_load_X7_isMachine : GoodIn wsX7_load (wsV RX7 138 RX7 yX7_isMachine wsX7_isMachine) := goodIn_app (goodIn_of _ (by decide +kernel)) ggX7_load_X7_isMachine
set_option maxRecDepth 20000 in
theorem ggX7_load_X7_isIn : GoodIn wsX7_load wsX7_isIn := goodIn_r _ [16] (by decide +kernel) (by decide +kernel)
set_option maxRecDepth 20000 in
theorem gX7_load_X7_isIn : GoodIn wsX7_load (va_wsS RX7 122 yX7_isIn wsX7_isIn) := goodIn_app (goodIn_of _ (by decide +kernel)) ggX7_load_X7_isIn
set_option maxRecDepth 20000 in
theorem ggX7_load_X7_empty : GoodIn wsX7_load wsX7_empty := goodIn_r _ [20, 4, 5, 45, 46, 47, 48, 49, 50, 51, 52, 53, 54, 55, 56, 57, 58, 59, 60, 61, 62, 63, 64, 65, 66, 67, 68, 69, 70, 71, 72, 73, 74, 75, 76, 77, 78, 79, 80, 81, 82, 83, 84, 85] (by decide +kernel) (by decide +kernel)
set_option maxRecDepth 20000 in
theorem gX7_load_X7_empty : GoodIn wsX7_load (wsV RX7 151 RX7 yX7_empty wsX7_empty) := goodIn_app (goodIn_of _ (by decide +kernel)) ggX7_load_X7_empty
set_option maxRecDepth 20000 in
theorem ggX7_load_X7_sumOf : GoodIn wsX7_load wsX7_sumOf := goodIn_r _ [24, 5, 45, 46, 47, 48, 49, 50, 51, 52, 53, 54, 55, 56, 57, 58, 59, 60, 61, 62, 63, 64, 65, 66, 67, 68, 69, 70, 71, 72, 73, 74, 75, 76, 77, 78, 79, 80, 81, 82, 83, 84, 85] (by decide +kernel) (by decide +kernel)
set_option maxRecDepth 20000 in
theorem gX7_load_X7_sumOf : GoodIn wsX7_load (wsV RX7 148 RX7 yX7_sumOf wsX7_sumOf) := goodIn_app (goodIn_of _ (by decide +kernel)) ggX7_load_X7_sumOf
set_option maxRecDepth 20000 in
theorem ggX7_load_X7_stir : GoodIn wsX7_load wsX7_stir := goodIn_r _ [28, 29, 30, 31, 32, 33, 34, 11, 35, 36, 37, 38, 39, 40, 41, 42, 43, 44, 45, 46, 47, 48, 49, 50, 51, 52, 53, 54, 55, 56, 57, 58, 59, 60, 61, 62, 63, 64, 65, 66, 67, 68, 69, 70, 71, 72, 73, 74, 75, 76, 77, 78, 79, 80, 81, 82, 83, 84, 85] (by decide +kernel) (by decide +kernel)
set_option maxRecDepth 20000 in
theorem gX7_load_X7_stir : GoodIn wsX7_load (wsV RX7 155 RX7 yX7_stir wsX7_stir) := goodIn_app (goodIn_of _ (by decide +kernel)) ggX7_load_X7_stir
theorem dX7_load_0 : decode cX7_load 0 = .ok (.aload_n 0, 1) := by decide +kernel
theorem dX7_load_1 : decode cX7_load 1 = .ok (.iload_n 1, 1) := by decide +kernel
theorem dX7_load_2 : decode cX7_load 2 = .ok (.invokevirtual 138, 3) := by decide +kernel
theorem dX7_load_5 : decode cX7_load 5 = .ok (.ifCond .eq 28, 3) := by decide +kernel
theorem dX7_load_8 : decode cX7_load 8 = .ok (.aload_n 0, 1) := by decide +kernel
theorem dX7_load_9 : decode cX7_load 9 = .ok (.getfield 142, 3) := by decide +kernel
theorem dX7_load_12 : decode cX7_load 12 = .ok (.ifCond .eq 21, 3) := by decide +kernel
theorem dX7_load_15 : decode cX7_load 15 = .ok (.iload_n 2, 1) := by decide +kernel
theorem dX7_load_16 : decode cX7_load 16 = .ok (.aload_n 0, 1) := by decide +kernel
theorem dX7_load_17 : decode cX7_load 17 = .ok (.getfield 32, 3) := by decide +kernel
theorem dX7_load_20 : decode cX7_load 20 = .ok (.iload_n 1, 1) := by decide +kernel
theorem dX7_load_21 : decode cX7_load 21 = .ok (.iaload, 1) := by decide +kernel
theorem dX7_load_22 : decode cX7_load 22 = .ok (.iconst 1, 1) := by decide +kernel
theorem dX7_load_23 : decode cX7_load 23 = .ok (.iadd, 1) := by decide +kernel
theorem dX7_load_24 : decode cX7_load 24 = .ok (.sipush 9999, 3) := by decide +kernel
theorem dX7_load_27 : decode cX7_load 27 = .ok (.invokestatic 122, 3) := by decide +kernel
theorem dX7_load_30 : decode cX7_load 30 = .ok (.ifCond .ne 5, 3) := by decide +kernel
theorem dX7_load_33 : decode cX7_load 33 = .ok (.iconst (-1), 1) := by decide +kernel
theorem dX7_load_34 : decode cX7_load 34 = .ok (.ireturn, 1) := by decide +kernel
theorem dX7_load_35 : decode cX7_load 35 = .ok (.aload_n 0, 1) := by decide +kernel
theorem dX7_load_36 : decode cX7_load 36 = .ok (.getfield 32, 3) := by decide +kernel
theorem dX7_load_39 : decode cX7_load 39 = .ok (.iload_n 1, 1) := by decide +kernel
theorem dX7_load_40 : decode cX7_load 40 = .ok (.iload_n 2, 1) := by decide +kernel
theorem dX7_load_41 : decode cX7_load 41 = .ok (.iastore, 1) := by decide +kernel
theorem dX7_load_42 : decode cX7_load 42 = .ok (.aload_n 0, 1) := by decide +kernel
theorem dX7_load_43 : decode cX7_load 43 = .ok (.getfield 35, 3) := by decide +kernel
theorem dX7_load_46 : decode cX7_load 46 = .ok (.iload_n 1, 1) := by decide +kernel
theorem dX7_load_47 : decode cX7_load 47 = .ok (.aload_n 0, 1) := by decide +kernel
theorem dX7_load_48 : decode cX7_load 48 = .ok (.getfield 142, 3) := by decide +kernel
theorem dX7_load_51 : decode cX7_load 51 = .ok (.iastore, 1) := by decide +kernel
theorem dX7_load_52 : decode cX7_load 52 = .ok (.aload_n 0, 1) := by decide +kernel
theorem dX7_load_53 : decode cX7_load 53 = .ok (.iload_n 1, 1) := by decide +kernel
theorem dX7_load_54 : decode cX7_load 54 = .ok (.invokevirtual 151, 3) := by decide +kernel
theorem dX7_load_57 : decode cX7_load 57 = .ok (.iconst 0, 1) := by decide +kernel
theorem dX7_load_58 : decode cX7_load 58 = .ok (.istore_n 3, 1) := by decide +kernel
theorem dX7_load_59 : decode cX7_load 59 = .ok (.iload_n 3, 1) := by decide +kernel
theorem dX7_load_60 : decode cX7_load 60 = .ok (.aload_n 0, 1) := by decide +kernel
theorem dX7_load_61 : decode cX7_load 61 = .ok (.getfield 142, 3) := by decide +kernel
theorem dX7_load_64 : decode cX7_load 64 = .ok (.if_icmp .ge 40, 3) := by decide +kernel
theorem dX7_load_67 : decode cX7_load 67 = .ok (.aload_n 0, 1) := by decide +kernel
theorem dX7_load_68 : decode cX7_load 68 = .ok (.getfield 41, 3) := by decide +kernel
theorem dX7_load_71 : decode cX7_load 71 = .ok (.bipush 12, 2) := by decide +kernel
theorem dX7_load_73 : decode cX7_load 73 = .ok (.iload_n 1, 1) := by decide +kernel
theorem dX7_load_74 : decode cX7_load 74 = .ok (.imul, 1) := by decide +kernel
theorem dX7_load_75 : decode cX7_load 75 = .ok (.iload_n 3, 1) := by decide +kernel
theorem dX7_load_76 : decode cX7_load 76 = .ok (.iadd, 1) := by decide +kernel
theorem dX7_load_77 : decode cX7_load 77 = .ok (.iconst 1, 1) := by decide +kernel
theorem dX7_load_78 : decode cX7_load 78 = .ok (.iload_n 3, 1) := by decide +kernel
theorem dX7_load_79 : decode cX7_load 79 = .ok (.ishl, 1) := by decide +kernel
theorem dX7_load_80 : decode cX7_load 80 = .ok (.iastore, 1) := by decide +kernel
theorem dX7_load_81 : decode cX7_load 81 = .ok (.aload_n 0, 1) := by decide +kernel
theorem dX7_load_82 : decode cX7_load 82 = .ok (.getfield 44, 3) := by decide +kernel
theorem dX7_load_85 : decode cX7_load 85 = .ok (.bipush 12, 2) := by decide +kernel
theorem dX7_load_87 : decode cX7_load 87 = .ok (.iload_n 1, 1) := by decide +kernel
theorem dX7_load_88 : decode cX7_load 88 = .ok (.imul, 1) := by decide +kernel
theorem dX7_load_89 : decode cX7_load 89 = .ok (.iload_n 3, 1) := by decide +kernel
theorem dX7_load_90 : decode cX7_load 90 = .ok (.iadd, 1) := by decide +kernel
theorem dX7_load_91 : decode cX7_load 91 = .ok (.aload_n 0, 1) := by decide +kernel
theorem dX7_load_92 : decode cX7_load 92 = .ok (.getfield 25, 3) := by decide +kernel
theorem dX7_load_95 : decode cX7_load 95 = .ok (.iload_n 3, 1) := by decide +kernel
theorem dX7_load_96 : decode cX7_load 96 = .ok (.iaload, 1) := by decide +kernel
theorem dX7_load_97 : decode cX7_load 97 = .ok (.iastore, 1) := by decide +kernel
theorem dX7_load_98 : decode cX7_load 98 = .ok (.iinc 3 1, 3) := by decide +kernel
theorem dX7_load_101 : decode cX7_load 101 = .ok (.goto (-42), 3) := by decide +kernel
theorem dX7_load_104 : decode cX7_load 104 = .ok (.aload_n 0, 1) := by decide +kernel
theorem dX7_load_105 : decode cX7_load 105 = .ok (.getfield 38, 3) := by decide +kernel
theorem dX7_load_108 : decode cX7_load 108 = .ok (.iload_n 1, 1) := by decide +kernel
theorem dX7_load_109 : decode cX7_load 109 = .ok (.aload_n 0, 1) := by decide +kernel
theorem dX7_load_110 : decode cX7_load 110 = .ok (.iload_n 1, 1) := by decide +kernel
theorem dX7_load_111 : decode cX7_load 111 = .ok (.invokevirtual 148, 3) := by decide +kernel
theorem dX7_load_114 : decode cX7_load 114 = .ok (.iastore, 1) := by decide +kernel
theorem dX7_load_115 : decode cX7_load 115 = .ok (.aload_n 0, 1) := by decide +kernel
theorem dX7_load_116 : decode cX7_load 116 = .ok (.iconst 0, 1) := by decide +kernel
theorem dX7_load_117 : decode cX7_load 117 = .ok (.putfield 142, 3) := by decide +kernel
theorem dX7_load_120 : decode cX7_load 120 = .ok (.aload_n 0, 1) := by decide +kernel
theorem dX7_load_121 : decode cX7_load 121 = .ok (.iload_n 1, 1) := by decide +kernel
theorem dX7_load_122 : decode cX7_load 122 = .ok (.invokevirtual 155, 3) := by decide +kernel
theorem dX7_load_125 : decode cX7_load 125 = .ok (.aload_n 0, 1) := by decide +kernel
theorem dX7_load_126 : decode cX7_load 126 = .ok (.getfield 35, 3) := by decide +kernel
theorem dX7_load_129 : decode cX7_load 129 = .ok (.iload_n 1, 1) := by decide +kernel
theorem dX7_load_130 : decode cX7_load 130 = .ok (.iaload, 1) := by decide +kernel
theorem dX7_load_131 : decode cX7_load 131 = .ok (.ireturn, 1) := by decide +kernel
set_option maxRecDepth 20000 in
theorem ggX7_turn_X7_isMachine : GoodIn wsX7_turn wsX7_isMachine := goodIn_r _ [8, 9, 10, 11, 7, 12, 13, 14, 15, 16, 17, 18, 19, 20, 21, 22, 23, 24, 25, 26, 27, 28, 29, 30, 31, 32, 33, 34, 35, 36, 37, 38, 39, 40, 41, 42, 43, 44, 45, 46, 47, 48, 49, 50, 51, 52, 53] (by decide +kernel) (by decide +kernel)
set_option maxRecDepth 20000 in
theorem gX7_turn_X7_isMachine : GoodIn wsX7_turn (wsV RX7 138 RX7 yX7_isMachine wsX7_isMachine) := goodIn_app (goodIn_of _ (by decide +kernel)) ggX7_turn_X7_isMachine
set_option maxRecDepth 20000 in
theorem ggX7_turn_X7_isIn : GoodIn wsX7_turn wsX7_isIn := goodIn_r _ [12] (by decide +kernel) (by decide +kernel)
set_option maxRecDepth 20000 in
theorem gX7_turn_X7_isIn : GoodIn wsX7_turn (va_wsS RX7 122 yX7_isIn wsX7_isIn) := goodIn_app (goodIn_of _ (by decide +kernel)) ggX7_turn_X7_isIn
theorem dX7_turn_0 : decode cX7_turn 0 = .ok (.aload_n 0, 1) := by decide +kernel
theorem dX7_turn_1 : decode cX7_turn 1 = .ok (.iload_n 1, 1) := by decide +kernel
theorem dX7_turn_2 : decode cX7_turn 2 = .ok (.invokevirtual 138, 3) := by decide +kernel
theorem dX7_turn_5 : decode cX7_turn 5 = .ok (.ifCond .eq 31, 3) := by decide +kernel
theorem dX7_turn_8 : decode cX7_turn 8 = .ok (.iload_n 2, 1) := by decide +kernel
theorem dX7_turn_9 : decode cX7_turn 9 = .ok (.aload_n 0, 1) := by decide +kernel
theorem dX7_turn_10 : decode cX7_turn 10 = .ok (.getfield 80, 3) := by decide +kernel
theorem dX7_turn_13 : decode cX7_turn 13 = .ok (.iload_n 1, 1) := by decide +kernel
theorem dX7_turn_14 : decode cX7_turn 14 = .ok (.iaload, 1) := by decide +kernel
theorem dX7_turn_15 : decode cX7_turn 15 = .ok (.iconst 1, 1) := by decide +kernel
theorem dX7_turn_16 : decode cX7_turn 16 = .ok (.iadd, 1) := by decide +kernel
theorem dX7_turn_17 : decode cX7_turn 17 = .ok (.sipush 9999, 3) := by decide +kernel
theorem dX7_turn_20 : decode cX7_turn 20 = .ok (.invokestatic 122, 3) := by decide +kernel
theorem dX7_turn_23 : decode cX7_turn 23 = .ok (.ifCond .eq 13, 3) := by decide +kernel
theorem dX7_turn_26 : decode cX7_turn 26 = .ok (.iload_n 3, 1) := by decide +kernel
theorem dX7_turn_27 : decode cX7_turn 27 = .ok (.iconst 0, 1) := by decide +kernel
theorem dX7_turn_28 : decode cX7_turn 28 = .ok (.ldc 158, 2) := by decide +kernel
theorem dX7_turn_30 : decode cX7_turn 30 = .ok (.invokestatic 122, 3) := by decide +kernel
theorem dX7_turn_33 : decode cX7_turn 33 = .ok (.ifCond .ne 5, 3) := by decide +kernel
theorem dX7_turn_36 : decode cX7_turn 36 = .ok (.iconst 0, 1) := by decide +kernel
theorem dX7_turn_37 : decode cX7_turn 37 = .ok (.ireturn, 1) := by decide +kernel
theorem dX7_turn_38 : decode cX7_turn 38 = .ok (.aload_n 0, 1) := by decide +kernel
theorem dX7_turn_39 : decode cX7_turn 39 = .ok (.getfield 80, 3) := by decide +kernel
theorem dX7_turn_42 : decode cX7_turn 42 = .ok (.iload_n 1, 1) := by decide +kernel
theorem dX7_turn_43 : decode cX7_turn 43 = .ok (.iload_n 2, 1) := by decide +kernel
theorem dX7_turn_44 : decode cX7_turn 44 = .ok (.iastore, 1) := by decide +kernel
theorem dX7_turn_45 : decode cX7_turn 45 = .ok (.aload_n 0, 1) := by decide +kernel
theorem dX7_turn_46 : decode cX7_turn 46 = .ok (.getfield 83, 3) := by decide +kernel
theorem dX7_turn_49 : decode cX7_turn 49 = .ok (.iload_n 1, 1) := by decide +kernel
theorem dX7_turn_50 : decode cX7_turn 50 = .ok (.iload_n 3, 1) := by decide +kernel
theorem dX7_turn_51 : decode cX7_turn 51 = .ok (.iastore, 1) := by decide +kernel
theorem dX7_turn_52 : decode cX7_turn 52 = .ok (.iconst 1, 1) := by decide +kernel
theorem dX7_turn_53 : decode cX7_turn 53 = .ok (.ireturn, 1) := by decide +kernel
set_option maxRecDepth 20000 in
theorem ggX7_own_X7_comesIn : GoodIn wsX7_own wsX7_comesIn := goodIn_r _ [6, 7, 8, 9, 10, 11, 12, 13, 14, 5, 15, 16, 17, 18, 19, 20, 21, 22, 23, 44, 45, 46, 47, 48, 49, 50, 51, 52, 53, 54, 55, 56, 57, 58, 59, 60, 61, 62, 63, 64, 65, 66, 67, 68, 69, 70, 71, 72, 73, 74, 75, 76, 77, 78, 79, 80, 81, 82, 83, 84] (by decide +kernel) (by decide +kernel)
set_option maxRecDepth 20000 in
theorem gX7_own_X7_comesIn : GoodIn wsX7_own (wsV RX7 159 RX7 yX7_comesIn wsX7_comesIn) := goodIn_app (goodIn_of _ (by decide +kernel)) ggX7_own_X7_comesIn
set_option maxRecDepth 20000 in
theorem ggX7_own_X7_stir : GoodIn wsX7_own wsX7_stir := goodIn_r _ [27, 28, 29, 30, 31, 32, 33, 5, 34, 35, 36, 37, 38, 39, 40, 41, 42, 43, 44, 45, 46, 47, 48, 49, 50, 51, 52, 53, 54, 55, 56, 57, 58, 59, 60, 61, 62, 63, 64, 65, 66, 67, 68, 69, 70, 71, 72, 73, 74, 75, 76, 77, 78, 79, 80, 81, 82, 83, 84] (by decide +kernel) (by decide +kernel)
set_option maxRecDepth 20000 in
theorem gX7_own_X7_stir : GoodIn wsX7_own (wsV RX7 155 RX7 yX7_stir wsX7_stir) := goodIn_app (goodIn_of _ (by decide +kernel)) ggX7_own_X7_stir
theorem dX7_own_0 : decode cX7_own 0 = .ok (.aload_n 0, 1) := by decide +kernel
theorem dX7_own_1 : decode cX7_own 1 = .ok (.iload_n 1, 1) := by decide +kernel
theorem dX7_own_2 : decode cX7_own 2 = .ok (.iload_n 2, 1) := by decide +kernel
theorem dX7_own_3 : decode cX7_own 3 = .ok (.iload_n 3, 1) := by decide +kernel
theorem dX7_own_4 : decode cX7_own 4 = .ok (.invokevirtual 159, 3) := by decide +kernel
theorem dX7_own_7 : decode cX7_own 7 = .ok (.ifCond .eq 8, 3) := by decide +kernel
theorem dX7_own_10 : decode cX7_own 10 = .ok (.aload_n 0, 1) := by decide +kernel
theorem dX7_own_11 : decode cX7_own 11 = .ok (.iload_n 1, 1) := by decide +kernel
theorem dX7_own_12 : decode cX7_own 12 = .ok (.invokevirtual 155, 3) := by decide +kernel
theorem dX7_own_15 : decode cX7_own 15 = .ok (.aload_n 0, 1) := by decide +kernel
theorem dX7_own_16 : decode cX7_own 16 = .ok (.getfield 62, 3) := by decide +kernel
theorem dX7_own_19 : decode cX7_own 19 = .ok (.iload_n 1, 1) := by decide +kernel
theorem dX7_own_20 : decode cX7_own 20 = .ok (.iconst (-1), 1) := by decide +kernel
theorem dX7_own_21 : decode cX7_own 21 = .ok (.iastore, 1) := by decide +kernel
theorem dX7_own_22 : decode cX7_own 22 = .ok (.return_, 1) := by decide +kernel
set_option maxRecDepth 20000 in
theorem ggX7_lie_X7_isMachine : GoodIn wsX7_lie wsX7_isMachine := goodIn_r _ [7, 8, 9, 10, 6, 11, 57, 58, 59, 60, 61, 62, 63, 64, 65, 66, 67, 68, 69, 70, 71, 72, 73, 74, 75, 76, 77, 78, 79, 80, 81, 82, 83, 84, 85, 86, 87, 88, 89, 90, 91, 92, 93, 94, 95, 96, 97] (by decide +kernel) (by decide +kernel)
set_option maxRecDepth 20000 in
theorem gX7_lie_X7_isMachine : GoodIn wsX7_lie (wsV RX7 138 RX7 yX7_isMachine wsX7_isMachine) := goodIn_app (goodIn_of _ (by decide +kernel)) ggX7_lie_X7_isMachine
set_option maxRecDepth 20000 in
theorem ggX7_lie_X7_isIn : GoodIn wsX7_lie wsX7_isIn := goodIn_r _ [11] (by decide +kernel) (by decide +kernel)
set_option maxRecDepth 20000 in
theorem gX7_lie_X7_isIn : GoodIn wsX7_lie (va_wsS RX7 122 yX7_isIn wsX7_isIn) := goodIn_app (goodIn_of _ (by decide +kernel)) ggX7_lie_X7_isIn
set_option maxRecDepth 20000 in
theorem ggX7_lie_X7_own : GoodIn wsX7_lie wsX7_own := goodIn_r _ [15, 16, 17, 18, 19, 6, 20, 21, 22, 2, 23, 24, 25, 26, 27, 28, 29, 30, 31, 32, 33, 34, 35, 36, 37, 38, 39, 40, 41, 42, 43, 44, 45, 46, 47, 48, 49, 50, 51, 52, 53, 54, 55, 56, 57, 58, 59, 60, 61, 62, 63, 64, 65, 66, 67, 68, 69, 70, 71, 72, 73, 74, 75, 76, 77, 78, 79, 80, 81, 82, 83, 84, 85, 86, 87, 88, 89, 90, 91, 92, 93, 94, 95, 96, 97] (by decide +kernel) (by decide +kernel)
set_option maxRecDepth 20000 in
theorem gX7_lie_X7_own : GoodIn wsX7_lie (wsV RX7 162 RX7 yX7_own wsX7_own) := goodIn_app (goodIn_of _ (by decide +kernel)) ggX7_lie_X7_own
theorem dX7_lie_0 : decode cX7_lie 0 = .ok (.aload_n 0, 1) := by decide +kernel
theorem dX7_lie_1 : decode cX7_lie 1 = .ok (.iload_n 1, 1) := by decide +kernel
theorem dX7_lie_2 : decode cX7_lie 2 = .ok (.invokevirtual 138, 3) := by decide +kernel
theorem dX7_lie_5 : decode cX7_lie 5 = .ok (.ifCond .eq 30, 3) := by decide +kernel
theorem dX7_lie_8 : decode cX7_lie 8 = .ok (.aload_n 0, 1) := by decide +kernel
theorem dX7_lie_9 : decode cX7_lie 9 = .ok (.getfield 32, 3) := by decide +kernel
theorem dX7_lie_12 : decode cX7_lie 12 = .ok (.iload_n 1, 1) := by decide +kernel
theorem dX7_lie_13 : decode cX7_lie 13 = .ok (.iaload, 1) := by decide +kernel
theorem dX7_lie_14 : decode cX7_lie 14 = .ok (.ifCond .eq 21, 3) := by decide +kernel
theorem dX7_lie_17 : decode cX7_lie 17 = .ok (.iload_n 2, 1) := by decide +kernel
theorem dX7_lie_18 : decode cX7_lie 18 = .ok (.iconst 1, 1) := by decide +kernel
theorem dX7_lie_19 : decode cX7_lie 19 = .ok (.iconst 1, 1) := by decide +kernel
theorem dX7_lie_20 : decode cX7_lie 20 = .ok (.aload_n 0, 1) := by decide +kernel
theorem dX7_lie_21 : decode cX7_lie 21 = .ok (.getfield 35, 3) := by decide +kernel
theorem dX7_lie_24 : decode cX7_lie 24 = .ok (.iload_n 1, 1) := by decide +kernel
theorem dX7_lie_25 : decode cX7_lie 25 = .ok (.iaload, 1) := by decide +kernel
theorem dX7_lie_26 : decode cX7_lie 26 = .ok (.ishl, 1) := by decide +kernel
theorem dX7_lie_27 : decode cX7_lie 27 = .ok (.iconst 1, 1) := by decide +kernel
theorem dX7_lie_28 : decode cX7_lie 28 = .ok (.isub, 1) := by decide +kernel
theorem dX7_lie_29 : decode cX7_lie 29 = .ok (.invokestatic 122, 3) := by decide +kernel
theorem dX7_lie_32 : decode cX7_lie 32 = .ok (.ifCond .ne 5, 3) := by decide +kernel
theorem dX7_lie_35 : decode cX7_lie 35 = .ok (.iconst 0, 1) := by decide +kernel
theorem dX7_lie_36 : decode cX7_lie 36 = .ok (.ireturn, 1) := by decide +kernel
theorem dX7_lie_37 : decode cX7_lie 37 = .ok (.aload_n 0, 1) := by decide +kernel
theorem dX7_lie_38 : decode cX7_lie 38 = .ok (.iload_n 1, 1) := by decide +kernel
theorem dX7_lie_39 : decode cX7_lie 39 = .ok (.iload_n 2, 1) := by decide +kernel
theorem dX7_lie_40 : decode cX7_lie 40 = .ok (.iload_n 3, 1) := by decide +kernel
theorem dX7_lie_41 : decode cX7_lie 41 = .ok (.invokevirtual 162, 3) := by decide +kernel
theorem dX7_lie_44 : decode cX7_lie 44 = .ok (.iconst 1, 1) := by decide +kernel
theorem dX7_lie_45 : decode cX7_lie 45 = .ok (.ireturn, 1) := by decide +kernel
set_option maxRecDepth 20000 in
theorem ggX7_cut_X7_isMachine : GoodIn wsX7_cut wsX7_isMachine := goodIn_r _ [13, 14, 15, 16, 12, 17, 31, 32, 33, 34, 35, 36, 37, 38, 39, 40, 41, 42, 43, 44, 45, 46, 47, 48, 49, 50, 51, 52, 53, 54, 55, 56, 57, 58, 59, 60, 61, 62, 63, 64, 65, 66, 67, 68, 69, 70, 71] (by decide +kernel) (by decide +kernel)
set_option maxRecDepth 20000 in
theorem gX7_cut_X7_isMachine : GoodIn wsX7_cut (wsV RX7 138 RX7 yX7_isMachine wsX7_isMachine) := goodIn_app (goodIn_of _ (by decide +kernel)) ggX7_cut_X7_isMachine
set_option maxRecDepth 20000 in
theorem ggX7_cut_X7_begin : GoodIn wsX7_cut wsX7_begin := goodIn_r _ [21, 22, 23, 24, 3, 25, 26, 27, 12, 28, 29, 30, 31, 32, 33, 34, 35, 36, 37, 38, 39, 40, 41, 42, 43, 44, 45, 46, 47, 48, 49, 50, 51, 52, 53, 54, 55, 56, 57, 58, 59, 60, 61, 62, 63, 64, 65, 66, 67, 68, 69, 70, 71] (by decide +kernel) (by decide +kernel)
set_option maxRecDepth 20000 in
theorem gX7_cut_X7_begin : GoodIn wsX7_cut (wsV RX7 134 RX7 yX7_begin wsX7_begin) := goodIn_app (goodIn_of _ (by decide +kernel)) ggX7_cut_X7_begin
theorem dX7_cut_0 : decode cX7_cut 0 = .ok (.aload_n 0, 1) := by decide +kernel
theorem dX7_cut_1 : decode cX7_cut 1 = .ok (.iload_n 1, 1) := by decide +kernel
theorem dX7_cut_2 : decode cX7_cut 2 = .ok (.invokevirtual 138, 3) := by decide +kernel
theorem dX7_cut_5 : decode cX7_cut 5 = .ok (.ifCond .ne 5, 3) := by decide +kernel
theorem dX7_cut_8 : decode cX7_cut 8 = .ok (.iconst 0, 1) := by decide +kernel
theorem dX7_cut_9 : decode cX7_cut 9 = .ok (.ireturn, 1) := by decide +kernel
theorem dX7_cut_10 : decode cX7_cut 10 = .ok (.iconst 0, 1) := by decide +kernel
theorem dX7_cut_11 : decode cX7_cut 11 = .ok (.istore_n 3, 1) := by decide +kernel
theorem dX7_cut_12 : decode cX7_cut 12 = .ok (.iload_n 3, 1) := by decide +kernel
theorem dX7_cut_13 : decode cX7_cut 13 = .ok (.bipush 12, 2) := by decide +kernel
theorem dX7_cut_15 : decode cX7_cut 15 = .ok (.if_icmp .ge 23, 3) := by decide +kernel
theorem dX7_cut_18 : decode cX7_cut 18 = .ok (.aload_n 0, 1) := by decide +kernel
theorem dX7_cut_19 : decode cX7_cut 19 = .ok (.getfield 41, 3) := by decide +kernel
theorem dX7_cut_22 : decode cX7_cut 22 = .ok (.bipush 12, 2) := by decide +kernel
theorem dX7_cut_24 : decode cX7_cut 24 = .ok (.iload_n 1, 1) := by decide +kernel
theorem dX7_cut_25 : decode cX7_cut 25 = .ok (.imul, 1) := by decide +kernel
theorem dX7_cut_26 : decode cX7_cut 26 = .ok (.iload_n 3, 1) := by decide +kernel
theorem dX7_cut_27 : decode cX7_cut 27 = .ok (.iadd, 1) := by decide +kernel
theorem dX7_cut_28 : decode cX7_cut 28 = .ok (.iaload, 1) := by decide +kernel
theorem dX7_cut_29 : decode cX7_cut 29 = .ok (.ifCond .ne 9, 3) := by decide +kernel
theorem dX7_cut_32 : decode cX7_cut 32 = .ok (.iinc 3 1, 3) := by decide +kernel
theorem dX7_cut_35 : decode cX7_cut 35 = .ok (.goto (-23), 3) := by decide +kernel
theorem dX7_cut_38 : decode cX7_cut 38 = .ok (.iload_n 2, 1) := by decide +kernel
theorem dX7_cut_39 : decode cX7_cut 39 = .ok (.ifCond .eq 33, 3) := by decide +kernel
theorem dX7_cut_42 : decode cX7_cut 42 = .ok (.iload_n 3, 1) := by decide +kernel
theorem dX7_cut_43 : decode cX7_cut 43 = .ok (.bipush 12, 2) := by decide +kernel
theorem dX7_cut_45 : decode cX7_cut 45 = .ok (.if_icmp .ge 27, 3) := by decide +kernel
theorem dX7_cut_48 : decode cX7_cut 48 = .ok (.aload_n 0, 1) := by decide +kernel
theorem dX7_cut_49 : decode cX7_cut 49 = .ok (.getfield 41, 3) := by decide +kernel
theorem dX7_cut_52 : decode cX7_cut 52 = .ok (.bipush 12, 2) := by decide +kernel
theorem dX7_cut_54 : decode cX7_cut 54 = .ok (.iload_n 1, 1) := by decide +kernel
theorem dX7_cut_55 : decode cX7_cut 55 = .ok (.imul, 1) := by decide +kernel
theorem dX7_cut_56 : decode cX7_cut 56 = .ok (.iload_n 3, 1) := by decide +kernel
theorem dX7_cut_57 : decode cX7_cut 57 = .ok (.iadd, 1) := by decide +kernel
theorem dX7_cut_58 : decode cX7_cut 58 = .ok (.iconst 0, 1) := by decide +kernel
theorem dX7_cut_59 : decode cX7_cut 59 = .ok (.iastore, 1) := by decide +kernel
theorem dX7_cut_60 : decode cX7_cut 60 = .ok (.aload_n 0, 1) := by decide +kernel
theorem dX7_cut_61 : decode cX7_cut 61 = .ok (.getfield 44, 3) := by decide +kernel
theorem dX7_cut_64 : decode cX7_cut 64 = .ok (.bipush 12, 2) := by decide +kernel
theorem dX7_cut_66 : decode cX7_cut 66 = .ok (.iload_n 1, 1) := by decide +kernel
theorem dX7_cut_67 : decode cX7_cut 67 = .ok (.imul, 1) := by decide +kernel
theorem dX7_cut_68 : decode cX7_cut 68 = .ok (.iload_n 3, 1) := by decide +kernel
theorem dX7_cut_69 : decode cX7_cut 69 = .ok (.iadd, 1) := by decide +kernel
theorem dX7_cut_70 : decode cX7_cut 70 = .ok (.iconst 0, 1) := by decide +kernel
theorem dX7_cut_71 : decode cX7_cut 71 = .ok (.iastore, 1) := by decide +kernel
theorem dX7_cut_72 : decode cX7_cut 72 = .ok (.aload_n 0, 1) := by decide +kernel
theorem dX7_cut_73 : decode cX7_cut 73 = .ok (.getfield 50, 3) := by decide +kernel
theorem dX7_cut_76 : decode cX7_cut 76 = .ok (.iload_n 1, 1) := by decide +kernel
theorem dX7_cut_77 : decode cX7_cut 77 = .ok (.aload_n 0, 1) := by decide +kernel
theorem dX7_cut_78 : decode cX7_cut 78 = .ok (.getfield 16, 3) := by decide +kernel
theorem dX7_cut_81 : decode cX7_cut 81 = .ok (.iastore, 1) := by decide +kernel
theorem dX7_cut_82 : decode cX7_cut 82 = .ok (.aload_n 0, 1) := by decide +kernel
theorem dX7_cut_83 : decode cX7_cut 83 = .ok (.iload_n 1, 1) := by decide +kernel
theorem dX7_cut_84 : decode cX7_cut 84 = .ok (.aload_n 0, 1) := by decide +kernel
theorem dX7_cut_85 : decode cX7_cut 85 = .ok (.getfield 131, 3) := by decide +kernel
theorem dX7_cut_88 : decode cX7_cut 88 = .ok (.invokevirtual 134, 3) := by decide +kernel
theorem dX7_cut_91 : decode cX7_cut 91 = .ok (.aload_n 0, 1) := by decide +kernel
theorem dX7_cut_92 : decode cX7_cut 92 = .ok (.getfield 62, 3) := by decide +kernel
theorem dX7_cut_95 : decode cX7_cut 95 = .ok (.iload_n 1, 1) := by decide +kernel
theorem dX7_cut_96 : decode cX7_cut 96 = .ok (.iconst (-1), 1) := by decide +kernel
theorem dX7_cut_97 : decode cX7_cut 97 = .ok (.iastore, 1) := by decide +kernel
theorem dX7_cut_98 : decode cX7_cut 98 = .ok (.aload_n 0, 1) := by decide +kernel
theorem dX7_cut_99 : decode cX7_cut 99 = .ok (.getfield 80, 3) := by decide +kernel
theorem dX7_cut_102 : decode cX7_cut 102 = .ok (.iload_n 1, 1) := by decide +kernel
theorem dX7_cut_103 : decode cX7_cut 103 = .ok (.iconst 0, 1) := by decide +kernel
theorem dX7_cut_104 : decode cX7_cut 104 = .ok (.iastore, 1) := by decide +kernel
theorem dX7_cut_105 : decode cX7_cut 105 = .ok (.aload_n 0, 1) := by decide +kernel
theorem dX7_cut_106 : decode cX7_cut 106 = .ok (.getfield 83, 3) := by decide +kernel
theorem dX7_cut_109 : decode cX7_cut 109 = .ok (.iload_n 1, 1) := by decide +kernel
theorem dX7_cut_110 : decode cX7_cut 110 = .ok (.iconst 0, 1) := by decide +kernel
theorem dX7_cut_111 : decode cX7_cut 111 = .ok (.iastore, 1) := by decide +kernel
theorem dX7_cut_112 : decode cX7_cut 112 = .ok (.iconst 1, 1) := by decide +kernel
theorem dX7_cut_113 : decode cX7_cut 113 = .ok (.ireturn, 1) := by decide +kernel
set_option maxRecDepth 20000 in
theorem ggX7_makeMix_X7_draw : GoodIn wsX7_makeMix wsX7_draw := goodIn_r _ [9, 10, 11, 12, 13, 14, 15, 16, 17, 18, 19, 20, 21, 22, 23, 24, 25, 26, 27, 28, 29, 30, 31, 32, 33, 34, 35, 36, 37, 38, 39, 40, 41, 42, 43, 44, 45, 46, 47, 48, 49, 50, 51, 52] (by decide +kernel) (by decide +kernel)
set_option maxRecDepth 20000 in
theorem gX7_makeMix_X7_draw : GoodIn wsX7_makeMix (wsV RX7 127 RX7 yX7_draw wsX7_draw) := goodIn_app (goodIn_of _ (by decide +kernel)) ggX7_makeMix_X7_draw
theorem dX7_makeMix_0 : decode cX7_makeMix 0 = .ok (.aload_n 0, 1) := by decide +kernel
theorem dX7_makeMix_1 : decode cX7_makeMix 1 = .ok (.sipush 4096, 3) := by decide +kernel
theorem dX7_makeMix_4 : decode cX7_makeMix 4 = .ok (.invokevirtual 127, 3) := by decide +kernel
theorem dX7_makeMix_7 : decode cX7_makeMix 7 = .ok (.istore_n 2, 1) := by decide +kernel
theorem dX7_makeMix_8 : decode cX7_makeMix 8 = .ok (.iconst 0, 1) := by decide +kernel
theorem dX7_makeMix_9 : decode cX7_makeMix 9 = .ok (.istore_n 3, 1) := by decide +kernel
theorem dX7_makeMix_10 : decode cX7_makeMix 10 = .ok (.iconst (-1), 1) := by decide +kernel
theorem dX7_makeMix_11 : decode cX7_makeMix 11 = .ok (.istore 4, 2) := by decide +kernel
theorem dX7_makeMix_13 : decode cX7_makeMix 13 = .ok (.aload_n 0, 1) := by decide +kernel
theorem dX7_makeMix_14 : decode cX7_makeMix 14 = .ok (.getfield 104, 3) := by decide +kernel
theorem dX7_makeMix_17 : decode cX7_makeMix 17 = .ok (.iload_n 1, 1) := by decide +kernel
theorem dX7_makeMix_18 : decode cX7_makeMix 18 = .ok (.iconst 0, 1) := by decide +kernel
theorem dX7_makeMix_19 : decode cX7_makeMix 19 = .ok (.iastore, 1) := by decide +kernel
theorem dX7_makeMix_20 : decode cX7_makeMix 20 = .ok (.aload_n 0, 1) := by decide +kernel
theorem dX7_makeMix_21 : decode cX7_makeMix 21 = .ok (.getfield 107, 3) := by decide +kernel
theorem dX7_makeMix_24 : decode cX7_makeMix 24 = .ok (.iload_n 1, 1) := by decide +kernel
theorem dX7_makeMix_25 : decode cX7_makeMix 25 = .ok (.iconst 0, 1) := by decide +kernel
theorem dX7_makeMix_26 : decode cX7_makeMix 26 = .ok (.iastore, 1) := by decide +kernel
theorem dX7_makeMix_27 : decode cX7_makeMix 27 = .ok (.bipush 11, 2) := by decide +kernel
theorem dX7_makeMix_29 : decode cX7_makeMix 29 = .ok (.istore 5, 2) := by decide +kernel
theorem dX7_makeMix_31 : decode cX7_makeMix 31 = .ok (.iload 5, 2) := by decide +kernel
theorem dX7_makeMix_33 : decode cX7_makeMix 33 = .ok (.ifCond .lt 90, 3) := by decide +kernel
theorem dX7_makeMix_36 : decode cX7_makeMix 36 = .ok (.aload_n 0, 1) := by decide +kernel
theorem dX7_makeMix_37 : decode cX7_makeMix 37 = .ok (.getfield 41, 3) := by decide +kernel
theorem dX7_makeMix_40 : decode cX7_makeMix 40 = .ok (.bipush 12, 2) := by decide +kernel
theorem dX7_makeMix_42 : decode cX7_makeMix 42 = .ok (.iload_n 1, 1) := by decide +kernel
theorem dX7_makeMix_43 : decode cX7_makeMix 43 = .ok (.imul, 1) := by decide +kernel
theorem dX7_makeMix_44 : decode cX7_makeMix 44 = .ok (.iload 5, 2) := by decide +kernel
theorem dX7_makeMix_46 : decode cX7_makeMix 46 = .ok (.iadd, 1) := by decide +kernel
theorem dX7_makeMix_47 : decode cX7_makeMix 47 = .ok (.iaload, 1) := by decide +kernel
theorem dX7_makeMix_48 : decode cX7_makeMix 48 = .ok (.ifCond .ne 6, 3) := by decide +kernel
theorem dX7_makeMix_51 : decode cX7_makeMix 51 = .ok (.goto 66, 3) := by decide +kernel
theorem dX7_makeMix_54 : decode cX7_makeMix 54 = .ok (.iload 4, 2) := by decide +kernel
theorem dX7_makeMix_56 : decode cX7_makeMix 56 = .ok (.ifCond .ge 7, 3) := by decide +kernel
theorem dX7_makeMix_59 : decode cX7_makeMix 59 = .ok (.iload 5, 2) := by decide +kernel
theorem dX7_makeMix_61 : decode cX7_makeMix 61 = .ok (.istore 4, 2) := by decide +kernel
theorem dX7_makeMix_63 : decode cX7_makeMix 63 = .ok (.iload_n 2, 1) := by decide +kernel
theorem dX7_makeMix_64 : decode cX7_makeMix 64 = .ok (.iload_n 3, 1) := by decide +kernel
theorem dX7_makeMix_65 : decode cX7_makeMix 65 = .ok (.ishr, 1) := by decide +kernel
theorem dX7_makeMix_66 : decode cX7_makeMix 66 = .ok (.iconst 1, 1) := by decide +kernel
theorem dX7_makeMix_67 : decode cX7_makeMix 67 = .ok (.iand, 1) := by decide +kernel
theorem dX7_makeMix_68 : decode cX7_makeMix 68 = .ok (.iconst 1, 1) := by decide +kernel
theorem dX7_makeMix_69 : decode cX7_makeMix 69 = .ok (.if_icmp .ne 45, 3) := by decide +kernel
theorem dX7_makeMix_72 : decode cX7_makeMix 72 = .ok (.aload_n 0, 1) := by decide +kernel
theorem dX7_makeMix_73 : decode cX7_makeMix 73 = .ok (.getfield 104, 3) := by decide +kernel
theorem dX7_makeMix_76 : decode cX7_makeMix 76 = .ok (.iload_n 1, 1) := by decide +kernel
theorem dX7_makeMix_77 : decode cX7_makeMix 77 = .ok (.dup2, 1) := by decide +kernel
theorem dX7_makeMix_78 : decode cX7_makeMix 78 = .ok (.iaload, 1) := by decide +kernel
theorem dX7_makeMix_79 : decode cX7_makeMix 79 = .ok (.aload_n 0, 1) := by decide +kernel
theorem dX7_makeMix_80 : decode cX7_makeMix 80 = .ok (.getfield 41, 3) := by decide +kernel
theorem dX7_makeMix_83 : decode cX7_makeMix 83 = .ok (.bipush 12, 2) := by decide +kernel
theorem dX7_makeMix_85 : decode cX7_makeMix 85 = .ok (.iload_n 1, 1) := by decide +kernel
theorem dX7_makeMix_86 : decode cX7_makeMix 86 = .ok (.imul, 1) := by decide +kernel
theorem dX7_makeMix_87 : decode cX7_makeMix 87 = .ok (.iload 5, 2) := by decide +kernel
theorem dX7_makeMix_89 : decode cX7_makeMix 89 = .ok (.iadd, 1) := by decide +kernel
theorem dX7_makeMix_90 : decode cX7_makeMix 90 = .ok (.iaload, 1) := by decide +kernel
theorem dX7_makeMix_91 : decode cX7_makeMix 91 = .ok (.ixor, 1) := by decide +kernel
theorem dX7_makeMix_92 : decode cX7_makeMix 92 = .ok (.iastore, 1) := by decide +kernel
theorem dX7_makeMix_93 : decode cX7_makeMix 93 = .ok (.aload_n 0, 1) := by decide +kernel
theorem dX7_makeMix_94 : decode cX7_makeMix 94 = .ok (.getfield 107, 3) := by decide +kernel
theorem dX7_makeMix_97 : decode cX7_makeMix 97 = .ok (.iload_n 1, 1) := by decide +kernel
theorem dX7_makeMix_98 : decode cX7_makeMix 98 = .ok (.dup2, 1) := by decide +kernel
theorem dX7_makeMix_99 : decode cX7_makeMix 99 = .ok (.iaload, 1) := by decide +kernel
theorem dX7_makeMix_100 : decode cX7_makeMix 100 = .ok (.aload_n 0, 1) := by decide +kernel
theorem dX7_makeMix_101 : decode cX7_makeMix 101 = .ok (.getfield 44, 3) := by decide +kernel
theorem dX7_makeMix_104 : decode cX7_makeMix 104 = .ok (.bipush 12, 2) := by decide +kernel
theorem dX7_makeMix_106 : decode cX7_makeMix 106 = .ok (.iload_n 1, 1) := by decide +kernel
theorem dX7_makeMix_107 : decode cX7_makeMix 107 = .ok (.imul, 1) := by decide +kernel
theorem dX7_makeMix_108 : decode cX7_makeMix 108 = .ok (.iload 5, 2) := by decide +kernel
theorem dX7_makeMix_110 : decode cX7_makeMix 110 = .ok (.iadd, 1) := by decide +kernel
theorem dX7_makeMix_111 : decode cX7_makeMix 111 = .ok (.iaload, 1) := by decide +kernel
theorem dX7_makeMix_112 : decode cX7_makeMix 112 = .ok (.ixor, 1) := by decide +kernel
theorem dX7_makeMix_113 : decode cX7_makeMix 113 = .ok (.iastore, 1) := by decide +kernel
theorem dX7_makeMix_114 : decode cX7_makeMix 114 = .ok (.iinc 3 1, 3) := by decide +kernel
theorem dX7_makeMix_117 : decode cX7_makeMix 117 = .ok (.iinc 5 (-1), 3) := by decide +kernel
theorem dX7_makeMix_120 : decode cX7_makeMix 120 = .ok (.goto (-89), 3) := by decide +kernel
theorem dX7_makeMix_123 : decode cX7_makeMix 123 = .ok (.aload_n 0, 1) := by decide +kernel
theorem dX7_makeMix_124 : decode cX7_makeMix 124 = .ok (.getfield 104, 3) := by decide +kernel
theorem dX7_makeMix_127 : decode cX7_makeMix 127 = .ok (.iload_n 1, 1) := by decide +kernel
theorem dX7_makeMix_128 : decode cX7_makeMix 128 = .ok (.iaload, 1) := by decide +kernel
theorem dX7_makeMix_129 : decode cX7_makeMix 129 = .ok (.ifCond .eq 4, 3) := by decide +kernel
theorem dX7_makeMix_132 : decode cX7_makeMix 132 = .ok (.return_, 1) := by decide +kernel
theorem dX7_makeMix_133 : decode cX7_makeMix 133 = .ok (.aload_n 0, 1) := by decide +kernel
theorem dX7_makeMix_134 : decode cX7_makeMix 134 = .ok (.getfield 104, 3) := by decide +kernel
theorem dX7_makeMix_137 : decode cX7_makeMix 137 = .ok (.iload_n 1, 1) := by decide +kernel
theorem dX7_makeMix_138 : decode cX7_makeMix 138 = .ok (.aload_n 0, 1) := by decide +kernel
theorem dX7_makeMix_139 : decode cX7_makeMix 139 = .ok (.getfield 41, 3) := by decide +kernel
theorem dX7_makeMix_142 : decode cX7_makeMix 142 = .ok (.bipush 12, 2) := by decide +kernel
theorem dX7_makeMix_144 : decode cX7_makeMix 144 = .ok (.iload_n 1, 1) := by decide +kernel
end
section
theorem dX7_makeMix_145 : decode cX7_makeMix 145 = .ok (.imul, 1) := by decide +kernel
theorem dX7_makeMix_146 : decode cX7_makeMix 146 = .ok (.iload 4, 2) := by decide +kernel
theorem dX7_makeMix_148 : decode cX7_makeMix 148 = .ok (.iadd, 1) := by decide +kernel
theorem dX7_makeMix_149 : decode cX7_makeMix 149 = .ok (.iaload, 1) := by decide +kernel
theorem dX7_makeMix_150 : decode cX7_makeMix 150 = .ok (.iastore, 1) := by decide +kernel
theorem dX7_makeMix_151 : decode cX7_makeMix 151 = .ok (.aload_n 0, 1) := by decide +kernel
theorem dX7_makeMix_152 : decode cX7_makeMix 152 = .ok (.getfield 107, 3) := by decide +kernel
theorem dX7_makeMix_155 : decode cX7_makeMix 155 = .ok (.iload_n 1, 1) := by decide +kernel
theorem dX7_makeMix_156 : decode cX7_makeMix 156 = .ok (.aload_n 0, 1) := by decide +kernel
theorem dX7_makeMix_157 : decode cX7_makeMix 157 = .ok (.getfield 44, 3) := by decide +kernel
theorem dX7_makeMix_160 : decode cX7_makeMix 160 = .ok (.bipush 12, 2) := by decide +kernel
theorem dX7_makeMix_162 : decode cX7_makeMix 162 = .ok (.iload_n 1, 1) := by decide +kernel
theorem dX7_makeMix_163 : decode cX7_makeMix 163 = .ok (.imul, 1) := by decide +kernel
theorem dX7_makeMix_164 : decode cX7_makeMix 164 = .ok (.iload 4, 2) := by decide +kernel
theorem dX7_makeMix_166 : decode cX7_makeMix 166 = .ok (.iadd, 1) := by decide +kernel
theorem dX7_makeMix_167 : decode cX7_makeMix 167 = .ok (.iaload, 1) := by decide +kernel
theorem dX7_makeMix_168 : decode cX7_makeMix 168 = .ok (.iastore, 1) := by decide +kernel
theorem dX7_makeMix_169 : decode cX7_makeMix 169 = .ok (.return_, 1) := by decide +kernel
set_option maxRecDepth 20000 in
theorem ggX7_send_X7_rank : GoodIn wsX7_send wsX7_rank := goodIn_r _ [25, 26, 40, 41, 42, 43, 44, 45, 46, 47, 48, 49, 50, 51, 52, 53, 54, 55, 56, 57, 58, 59, 60, 61, 62, 63, 64, 65, 66, 67, 68, 69, 70, 71, 72, 73, 74, 75, 76, 77, 78, 79, 80] (by decide +kernel) (by decide +kernel)
set_option maxRecDepth 20000 in
theorem gX7_send_X7_rank : GoodIn wsX7_send (wsV RX7 145 RX7 yX7_rank wsX7_rank) := goodIn_app (goodIn_of _ (by decide +kernel)) ggX7_send_X7_rank
set_option maxRecDepth 20000 in
theorem ggX7_send_X7_makeMix : GoodIn wsX7_send wsX7_makeMix := goodIn_r _ [30, 31, 32, 26, 33, 34, 35, 36, 24, 37, 38, 39, 40, 41, 42, 43, 44, 45, 46, 47, 48, 49, 50, 51, 52, 53, 54, 55, 56, 57, 58, 59, 60, 61, 62, 63, 64, 65, 66, 67, 68, 69, 70, 71, 72, 73, 74, 75, 76, 77, 78, 79, 80] (by decide +kernel) (by decide +kernel)
set_option maxRecDepth 20000 in
theorem gX7_send_X7_makeMix : GoodIn wsX7_send (wsV RX7 169 RX7 yX7_makeMix wsX7_makeMix) := goodIn_app (goodIn_of _ (by decide +kernel)) ggX7_send_X7_makeMix
theorem dX7_send_0 : decode cX7_send 0 = .ok (.aload_n 0, 1) := by decide +kernel
theorem dX7_send_1 : decode cX7_send 1 = .ok (.getfield 89, 3) := by decide +kernel
theorem dX7_send_4 : decode cX7_send 4 = .ok (.iload_n 1, 1) := by decide +kernel
theorem dX7_send_5 : decode cX7_send 5 = .ok (.iconst 0, 1) := by decide +kernel
theorem dX7_send_6 : decode cX7_send 6 = .ok (.iastore, 1) := by decide +kernel
theorem dX7_send_7 : decode cX7_send 7 = .ok (.aload_n 0, 1) := by decide +kernel
theorem dX7_send_8 : decode cX7_send 8 = .ok (.getfield 92, 3) := by decide +kernel
theorem dX7_send_11 : decode cX7_send 11 = .ok (.iload_n 1, 1) := by decide +kernel
theorem dX7_send_12 : decode cX7_send 12 = .ok (.aload_n 0, 1) := by decide +kernel
theorem dX7_send_13 : decode cX7_send 13 = .ok (.getfield 32, 3) := by decide +kernel
theorem dX7_send_16 : decode cX7_send 16 = .ok (.iload_n 1, 1) := by decide +kernel
theorem dX7_send_17 : decode cX7_send 17 = .ok (.iaload, 1) := by decide +kernel
theorem dX7_send_18 : decode cX7_send 18 = .ok (.iastore, 1) := by decide +kernel
theorem dX7_send_19 : decode cX7_send 19 = .ok (.aload_n 0, 1) := by decide +kernel
theorem dX7_send_20 : decode cX7_send 20 = .ok (.getfield 95, 3) := by decide +kernel
theorem dX7_send_23 : decode cX7_send 23 = .ok (.iload_n 1, 1) := by decide +kernel
theorem dX7_send_24 : decode cX7_send 24 = .ok (.aload_n 0, 1) := by decide +kernel
theorem dX7_send_25 : decode cX7_send 25 = .ok (.getfield 35, 3) := by decide +kernel
theorem dX7_send_28 : decode cX7_send 28 = .ok (.iload_n 1, 1) := by decide +kernel
theorem dX7_send_29 : decode cX7_send 29 = .ok (.iaload, 1) := by decide +kernel
theorem dX7_send_30 : decode cX7_send 30 = .ok (.iastore, 1) := by decide +kernel
theorem dX7_send_31 : decode cX7_send 31 = .ok (.aload_n 0, 1) := by decide +kernel
theorem dX7_send_32 : decode cX7_send 32 = .ok (.getfield 98, 3) := by decide +kernel
theorem dX7_send_35 : decode cX7_send 35 = .ok (.iload_n 1, 1) := by decide +kernel
theorem dX7_send_36 : decode cX7_send 36 = .ok (.aload_n 0, 1) := by decide +kernel
theorem dX7_send_37 : decode cX7_send 37 = .ok (.getfield 38, 3) := by decide +kernel
theorem dX7_send_40 : decode cX7_send 40 = .ok (.iload_n 1, 1) := by decide +kernel
theorem dX7_send_41 : decode cX7_send 41 = .ok (.iaload, 1) := by decide +kernel
theorem dX7_send_42 : decode cX7_send 42 = .ok (.iastore, 1) := by decide +kernel
theorem dX7_send_43 : decode cX7_send 43 = .ok (.aload_n 0, 1) := by decide +kernel
theorem dX7_send_44 : decode cX7_send 44 = .ok (.getfield 101, 3) := by decide +kernel
theorem dX7_send_47 : decode cX7_send 47 = .ok (.iload_n 1, 1) := by decide +kernel
theorem dX7_send_48 : decode cX7_send 48 = .ok (.aload_n 0, 1) := by decide +kernel
theorem dX7_send_49 : decode cX7_send 49 = .ok (.iload_n 1, 1) := by decide +kernel
theorem dX7_send_50 : decode cX7_send 50 = .ok (.invokevirtual 145, 3) := by decide +kernel
theorem dX7_send_53 : decode cX7_send 53 = .ok (.iastore, 1) := by decide +kernel
theorem dX7_send_54 : decode cX7_send 54 = .ok (.aload_n 0, 1) := by decide +kernel
theorem dX7_send_55 : decode cX7_send 55 = .ok (.getfield 110, 3) := by decide +kernel
theorem dX7_send_58 : decode cX7_send 58 = .ok (.iload_n 1, 1) := by decide +kernel
theorem dX7_send_59 : decode cX7_send 59 = .ok (.aload_n 0, 1) := by decide +kernel
theorem dX7_send_60 : decode cX7_send 60 = .ok (.getfield 80, 3) := by decide +kernel
theorem dX7_send_63 : decode cX7_send 63 = .ok (.iload_n 1, 1) := by decide +kernel
theorem dX7_send_64 : decode cX7_send 64 = .ok (.iaload, 1) := by decide +kernel
theorem dX7_send_65 : decode cX7_send 65 = .ok (.iastore, 1) := by decide +kernel
theorem dX7_send_66 : decode cX7_send 66 = .ok (.aload_n 0, 1) := by decide +kernel
theorem dX7_send_67 : decode cX7_send 67 = .ok (.getfield 113, 3) := by decide +kernel
theorem dX7_send_70 : decode cX7_send 70 = .ok (.iload_n 1, 1) := by decide +kernel
theorem dX7_send_71 : decode cX7_send 71 = .ok (.aload_n 0, 1) := by decide +kernel
theorem dX7_send_72 : decode cX7_send 72 = .ok (.getfield 83, 3) := by decide +kernel
theorem dX7_send_75 : decode cX7_send 75 = .ok (.iload_n 1, 1) := by decide +kernel
theorem dX7_send_76 : decode cX7_send 76 = .ok (.iaload, 1) := by decide +kernel
theorem dX7_send_77 : decode cX7_send 77 = .ok (.iastore, 1) := by decide +kernel
theorem dX7_send_78 : decode cX7_send 78 = .ok (.aload_n 0, 1) := by decide +kernel
theorem dX7_send_79 : decode cX7_send 79 = .ok (.getfield 62, 3) := by decide +kernel
theorem dX7_send_82 : decode cX7_send 82 = .ok (.iload_n 1, 1) := by decide +kernel
theorem dX7_send_83 : decode cX7_send 83 = .ok (.iaload, 1) := by decide +kernel
theorem dX7_send_84 : decode cX7_send 84 = .ok (.aload_n 0, 1) := by decide +kernel
theorem dX7_send_85 : decode cX7_send 85 = .ok (.getfield 131, 3) := by decide +kernel
theorem dX7_send_88 : decode cX7_send 88 = .ok (.if_icmp .ne 7, 3) := by decide +kernel
theorem dX7_send_91 : decode cX7_send 91 = .ok (.iconst 1, 1) := by decide +kernel
theorem dX7_send_92 : decode cX7_send 92 = .ok (.goto 4, 3) := by decide +kernel
theorem dX7_send_95 : decode cX7_send 95 = .ok (.iconst 0, 1) := by decide +kernel
theorem dX7_send_96 : decode cX7_send 96 = .ok (.istore_n 2, 1) := by decide +kernel
theorem dX7_send_97 : decode cX7_send 97 = .ok (.iload_n 2, 1) := by decide +kernel
theorem dX7_send_98 : decode cX7_send 98 = .ok (.ifCond .eq 10, 3) := by decide +kernel
theorem dX7_send_101 : decode cX7_send 101 = .ok (.aload_n 0, 1) := by decide +kernel
theorem dX7_send_102 : decode cX7_send 102 = .ok (.getfield 62, 3) := by decide +kernel
theorem dX7_send_105 : decode cX7_send 105 = .ok (.iload_n 1, 1) := by decide +kernel
theorem dX7_send_106 : decode cX7_send 106 = .ok (.iconst (-1), 1) := by decide +kernel
theorem dX7_send_107 : decode cX7_send 107 = .ok (.iastore, 1) := by decide +kernel
theorem dX7_send_108 : decode cX7_send 108 = .ok (.iload_n 2, 1) := by decide +kernel
theorem dX7_send_109 : decode cX7_send 109 = .ok (.ifCond .eq 47, 3) := by decide +kernel
theorem dX7_send_112 : decode cX7_send 112 = .ok (.aload_n 0, 1) := by decide +kernel
theorem dX7_send_113 : decode cX7_send 113 = .ok (.getfield 101, 3) := by decide +kernel
theorem dX7_send_116 : decode cX7_send 116 = .ok (.iload_n 1, 1) := by decide +kernel
theorem dX7_send_117 : decode cX7_send 117 = .ok (.iaload, 1) := by decide +kernel
theorem dX7_send_118 : decode cX7_send 118 = .ok (.ifCond .le 38, 3) := by decide +kernel
theorem dX7_send_121 : decode cX7_send 121 = .ok (.aload_n 0, 1) := by decide +kernel
theorem dX7_send_122 : decode cX7_send 122 = .ok (.getfield 89, 3) := by decide +kernel
theorem dX7_send_125 : decode cX7_send 125 = .ok (.iload_n 1, 1) := by decide +kernel
theorem dX7_send_126 : decode cX7_send 126 = .ok (.iconst 2, 1) := by decide +kernel
theorem dX7_send_127 : decode cX7_send 127 = .ok (.iastore, 1) := by decide +kernel
theorem dX7_send_128 : decode cX7_send 128 = .ok (.aload_n 0, 1) := by decide +kernel
theorem dX7_send_129 : decode cX7_send 129 = .ok (.getfield 68, 3) := by decide +kernel
theorem dX7_send_132 : decode cX7_send 132 = .ok (.iload_n 1, 1) := by decide +kernel
theorem dX7_send_133 : decode cX7_send 133 = .ok (.dup2, 1) := by decide +kernel
theorem dX7_send_134 : decode cX7_send 134 = .ok (.iaload, 1) := by decide +kernel
theorem dX7_send_135 : decode cX7_send 135 = .ok (.iconst 1, 1) := by decide +kernel
theorem dX7_send_136 : decode cX7_send 136 = .ok (.iadd, 1) := by decide +kernel
theorem dX7_send_137 : decode cX7_send 137 = .ok (.iastore, 1) := by decide +kernel
theorem dX7_send_138 : decode cX7_send 138 = .ok (.aload_n 0, 1) := by decide +kernel
theorem dX7_send_139 : decode cX7_send 139 = .ok (.dup, 1) := by decide +kernel
theorem dX7_send_140 : decode cX7_send 140 = .ok (.getfield 166, 3) := by decide +kernel
theorem dX7_send_143 : decode cX7_send 143 = .ok (.iconst 1, 1) := by decide +kernel
theorem dX7_send_144 : decode cX7_send 144 = .ok (.iadd, 1) := by decide +kernel
theorem dX7_send_145 : decode cX7_send 145 = .ok (.putfield 166, 3) := by decide +kernel
theorem dX7_send_148 : decode cX7_send 148 = .ok (.aload_n 0, 1) := by decide +kernel
theorem dX7_send_149 : decode cX7_send 149 = .ok (.iload_n 1, 1) := by decide +kernel
theorem dX7_send_150 : decode cX7_send 150 = .ok (.invokevirtual 169, 3) := by decide +kernel
theorem dX7_send_153 : decode cX7_send 153 = .ok (.goto 56, 3) := by decide +kernel
theorem dX7_send_156 : decode cX7_send 156 = .ok (.aload_n 0, 1) := by decide +kernel
theorem dX7_send_157 : decode cX7_send 157 = .ok (.getfield 56, 3) := by decide +kernel
theorem dX7_send_160 : decode cX7_send 160 = .ok (.iload_n 1, 1) := by decide +kernel
theorem dX7_send_161 : decode cX7_send 161 = .ok (.iaload, 1) := by decide +kernel
theorem dX7_send_162 : decode cX7_send 162 = .ok (.aload_n 0, 1) := by decide +kernel
theorem dX7_send_163 : decode cX7_send 163 = .ok (.getfield 131, 3) := by decide +kernel
theorem dX7_send_166 : decode cX7_send 166 = .ok (.if_icmp .ne 43, 3) := by decide +kernel
theorem dX7_send_169 : decode cX7_send 169 = .ok (.aload_n 0, 1) := by decide +kernel
theorem dX7_send_170 : decode cX7_send 170 = .ok (.getfield 59, 3) := by decide +kernel
theorem dX7_send_173 : decode cX7_send 173 = .ok (.iload_n 1, 1) := by decide +kernel
theorem dX7_send_174 : decode cX7_send 174 = .ok (.iaload, 1) := by decide +kernel
theorem dX7_send_175 : decode cX7_send 175 = .ok (.aload_n 0, 1) := by decide +kernel
theorem dX7_send_176 : decode cX7_send 176 = .ok (.getfield 13, 3) := by decide +kernel
theorem dX7_send_179 : decode cX7_send 179 = .ok (.if_icmp .ge 30, 3) := by decide +kernel
theorem dX7_send_182 : decode cX7_send 182 = .ok (.aload_n 0, 1) := by decide +kernel
theorem dX7_send_183 : decode cX7_send 183 = .ok (.getfield 89, 3) := by decide +kernel
theorem dX7_send_186 : decode cX7_send 186 = .ok (.iload_n 1, 1) := by decide +kernel
theorem dX7_send_187 : decode cX7_send 187 = .ok (.iconst 1, 1) := by decide +kernel
theorem dX7_send_188 : decode cX7_send 188 = .ok (.iastore, 1) := by decide +kernel
theorem dX7_send_189 : decode cX7_send 189 = .ok (.aload_n 0, 1) := by decide +kernel
theorem dX7_send_190 : decode cX7_send 190 = .ok (.getfield 65, 3) := by decide +kernel
theorem dX7_send_193 : decode cX7_send 193 = .ok (.iload_n 1, 1) := by decide +kernel
theorem dX7_send_194 : decode cX7_send 194 = .ok (.dup2, 1) := by decide +kernel
theorem dX7_send_195 : decode cX7_send 195 = .ok (.iaload, 1) := by decide +kernel
theorem dX7_send_196 : decode cX7_send 196 = .ok (.iconst 1, 1) := by decide +kernel
theorem dX7_send_197 : decode cX7_send 197 = .ok (.iadd, 1) := by decide +kernel
theorem dX7_send_198 : decode cX7_send 198 = .ok (.iastore, 1) := by decide +kernel
theorem dX7_send_199 : decode cX7_send 199 = .ok (.aload_n 0, 1) := by decide +kernel
theorem dX7_send_200 : decode cX7_send 200 = .ok (.dup, 1) := by decide +kernel
theorem dX7_send_201 : decode cX7_send 201 = .ok (.getfield 166, 3) := by decide +kernel
theorem dX7_send_204 : decode cX7_send 204 = .ok (.iconst 1, 1) := by decide +kernel
theorem dX7_send_205 : decode cX7_send 205 = .ok (.iadd, 1) := by decide +kernel
theorem dX7_send_206 : decode cX7_send 206 = .ok (.putfield 166, 3) := by decide +kernel
theorem dX7_send_209 : decode cX7_send 209 = .ok (.return_, 1) := by decide +kernel
set_option maxRecDepth 20000 in
theorem ggX7_listen_X7_draw : GoodIn wsX7_listen wsX7_draw := goodIn_r _ [11, 12, 13, 14, 15, 16, 17, 18, 19, 20, 21, 22, 23, 24, 25, 26, 27, 28, 29, 30, 31, 32, 33, 34, 35, 36, 37, 38, 39, 40, 41, 42, 43, 44, 45, 46, 47, 48, 49, 50, 51, 52, 53, 54] (by decide +kernel) (by decide +kernel)
set_option maxRecDepth 20000 in
theorem gX7_listen_X7_draw : GoodIn wsX7_listen (wsV RX7 127 RX7 yX7_draw wsX7_draw) := goodIn_app (goodIn_of _ (by decide +kernel)) ggX7_listen_X7_draw
theorem dX7_listen_0 : decode cX7_listen 0 = .ok (.iconst (-1), 1) := by decide +kernel
theorem dX7_listen_1 : decode cX7_listen 1 = .ok (.istore_n 2, 1) := by decide +kernel
theorem dX7_listen_2 : decode cX7_listen 2 = .ok (.iconst 0, 1) := by decide +kernel
theorem dX7_listen_3 : decode cX7_listen 3 = .ok (.istore_n 3, 1) := by decide +kernel
theorem dX7_listen_4 : decode cX7_listen 4 = .ok (.iconst 0, 1) := by decide +kernel
theorem dX7_listen_5 : decode cX7_listen 5 = .ok (.istore 4, 2) := by decide +kernel
theorem dX7_listen_7 : decode cX7_listen 7 = .ok (.iload 4, 2) := by decide +kernel
theorem dX7_listen_9 : decode cX7_listen 9 = .ok (.aload_n 0, 1) := by decide +kernel
theorem dX7_listen_10 : decode cX7_listen 10 = .ok (.getfield 119, 3) := by decide +kernel
theorem dX7_listen_13 : decode cX7_listen 13 = .ok (.if_icmp .ge 43, 3) := by decide +kernel
theorem dX7_listen_16 : decode cX7_listen 16 = .ok (.aload_n 0, 1) := by decide +kernel
theorem dX7_listen_17 : decode cX7_listen 17 = .ok (.getfield 89, 3) := by decide +kernel
theorem dX7_listen_20 : decode cX7_listen 20 = .ok (.iload 4, 2) := by decide +kernel
theorem dX7_listen_22 : decode cX7_listen 22 = .ok (.iaload, 1) := by decide +kernel
theorem dX7_listen_23 : decode cX7_listen 23 = .ok (.ifCond .eq 27, 3) := by decide +kernel
theorem dX7_listen_26 : decode cX7_listen 26 = .ok (.aload_n 0, 1) := by decide +kernel
theorem dX7_listen_27 : decode cX7_listen 27 = .ok (.getfield 29, 3) := by decide +kernel
theorem dX7_listen_30 : decode cX7_listen 30 = .ok (.bipush 12, 2) := by decide +kernel
theorem dX7_listen_32 : decode cX7_listen 32 = .ok (.iload_n 1, 1) := by decide +kernel
theorem dX7_listen_33 : decode cX7_listen 33 = .ok (.imul, 1) := by decide +kernel
theorem dX7_listen_34 : decode cX7_listen 34 = .ok (.iload 4, 2) := by decide +kernel
theorem dX7_listen_36 : decode cX7_listen 36 = .ok (.iadd, 1) := by decide +kernel
theorem dX7_listen_37 : decode cX7_listen 37 = .ok (.iaload, 1) := by decide +kernel
theorem dX7_listen_38 : decode cX7_listen 38 = .ok (.ifCond .ge 6, 3) := by decide +kernel
theorem dX7_listen_41 : decode cX7_listen 41 = .ok (.goto 9, 3) := by decide +kernel
theorem dX7_listen_44 : decode cX7_listen 44 = .ok (.iload 4, 2) := by decide +kernel
theorem dX7_listen_46 : decode cX7_listen 46 = .ok (.istore_n 2, 1) := by decide +kernel
theorem dX7_listen_47 : decode cX7_listen 47 = .ok (.iinc 3 1, 3) := by decide +kernel
theorem dX7_listen_50 : decode cX7_listen 50 = .ok (.iinc 4 1, 3) := by decide +kernel
theorem dX7_listen_53 : decode cX7_listen 53 = .ok (.goto (-46), 3) := by decide +kernel
theorem dX7_listen_56 : decode cX7_listen 56 = .ok (.aload_n 0, 1) := by decide +kernel
theorem dX7_listen_57 : decode cX7_listen 57 = .ok (.getfield 116, 3) := by decide +kernel
theorem dX7_listen_60 : decode cX7_listen 60 = .ok (.iload_n 1, 1) := by decide +kernel
theorem dX7_listen_61 : decode cX7_listen 61 = .ok (.iconst (-1), 1) := by decide +kernel
theorem dX7_listen_62 : decode cX7_listen 62 = .ok (.iastore, 1) := by decide +kernel
theorem dX7_listen_63 : decode cX7_listen 63 = .ok (.aload_n 0, 1) := by decide +kernel
theorem dX7_listen_64 : decode cX7_listen 64 = .ok (.getfield 89, 3) := by decide +kernel
theorem dX7_listen_67 : decode cX7_listen 67 = .ok (.iload_n 1, 1) := by decide +kernel
theorem dX7_listen_68 : decode cX7_listen 68 = .ok (.iaload, 1) := by decide +kernel
theorem dX7_listen_69 : decode cX7_listen 69 = .ok (.ifCond .ne 7, 3) := by decide +kernel
theorem dX7_listen_72 : decode cX7_listen 72 = .ok (.iload_n 3, 1) := by decide +kernel
theorem dX7_listen_73 : decode cX7_listen 73 = .ok (.ifCond .ne 4, 3) := by decide +kernel
theorem dX7_listen_76 : decode cX7_listen 76 = .ok (.return_, 1) := by decide +kernel
theorem dX7_listen_77 : decode cX7_listen 77 = .ok (.iload_n 3, 1) := by decide +kernel
theorem dX7_listen_78 : decode cX7_listen 78 = .ok (.iconst 1, 1) := by decide +kernel
theorem dX7_listen_79 : decode cX7_listen 79 = .ok (.if_icmp .le 16, 3) := by decide +kernel
theorem dX7_listen_82 : decode cX7_listen 82 = .ok (.aload_n 0, 1) := by decide +kernel
theorem dX7_listen_83 : decode cX7_listen 83 = .ok (.getfield 71, 3) := by decide +kernel
theorem dX7_listen_86 : decode cX7_listen 86 = .ok (.iload_n 1, 1) := by decide +kernel
theorem dX7_listen_87 : decode cX7_listen 87 = .ok (.dup2, 1) := by decide +kernel
theorem dX7_listen_88 : decode cX7_listen 88 = .ok (.iaload, 1) := by decide +kernel
theorem dX7_listen_89 : decode cX7_listen 89 = .ok (.iconst 1, 1) := by decide +kernel
theorem dX7_listen_90 : decode cX7_listen 90 = .ok (.iadd, 1) := by decide +kernel
theorem dX7_listen_91 : decode cX7_listen 91 = .ok (.iastore, 1) := by decide +kernel
theorem dX7_listen_92 : decode cX7_listen 92 = .ok (.goto 43, 3) := by decide +kernel
theorem dX7_listen_95 : decode cX7_listen 95 = .ok (.aload_n 0, 1) := by decide +kernel
theorem dX7_listen_96 : decode cX7_listen 96 = .ok (.bipush 100, 2) := by decide +kernel
theorem dX7_listen_98 : decode cX7_listen 98 = .ok (.invokevirtual 127, 3) := by decide +kernel
theorem dX7_listen_101 : decode cX7_listen 101 = .ok (.aload_n 0, 1) := by decide +kernel
theorem dX7_listen_102 : decode cX7_listen 102 = .ok (.getfield 29, 3) := by decide +kernel
theorem dX7_listen_105 : decode cX7_listen 105 = .ok (.bipush 12, 2) := by decide +kernel
theorem dX7_listen_107 : decode cX7_listen 107 = .ok (.iload_n 1, 1) := by decide +kernel
theorem dX7_listen_108 : decode cX7_listen 108 = .ok (.imul, 1) := by decide +kernel
theorem dX7_listen_109 : decode cX7_listen 109 = .ok (.iload_n 2, 1) := by decide +kernel
theorem dX7_listen_110 : decode cX7_listen 110 = .ok (.iadd, 1) := by decide +kernel
theorem dX7_listen_111 : decode cX7_listen 111 = .ok (.iaload, 1) := by decide +kernel
theorem dX7_listen_112 : decode cX7_listen 112 = .ok (.if_icmp .ge 16, 3) := by decide +kernel
theorem dX7_listen_115 : decode cX7_listen 115 = .ok (.aload_n 0, 1) := by decide +kernel
theorem dX7_listen_116 : decode cX7_listen 116 = .ok (.getfield 74, 3) := by decide +kernel
theorem dX7_listen_119 : decode cX7_listen 119 = .ok (.iload_n 1, 1) := by decide +kernel
theorem dX7_listen_120 : decode cX7_listen 120 = .ok (.dup2, 1) := by decide +kernel
theorem dX7_listen_121 : decode cX7_listen 121 = .ok (.iaload, 1) := by decide +kernel
theorem dX7_listen_122 : decode cX7_listen 122 = .ok (.iconst 1, 1) := by decide +kernel
theorem dX7_listen_123 : decode cX7_listen 123 = .ok (.iadd, 1) := by decide +kernel
theorem dX7_listen_124 : decode cX7_listen 124 = .ok (.iastore, 1) := by decide +kernel
theorem dX7_listen_125 : decode cX7_listen 125 = .ok (.goto 10, 3) := by decide +kernel
theorem dX7_listen_128 : decode cX7_listen 128 = .ok (.aload_n 0, 1) := by decide +kernel
theorem dX7_listen_129 : decode cX7_listen 129 = .ok (.getfield 116, 3) := by decide +kernel
theorem dX7_listen_132 : decode cX7_listen 132 = .ok (.iload_n 1, 1) := by decide +kernel
theorem dX7_listen_133 : decode cX7_listen 133 = .ok (.iload_n 2, 1) := by decide +kernel
theorem dX7_listen_134 : decode cX7_listen 134 = .ok (.iastore, 1) := by decide +kernel
theorem dX7_listen_135 : decode cX7_listen 135 = .ok (.return_, 1) := by decide +kernel
set_option maxRecDepth 20000 in
theorem ggX7_work_X7_tell : GoodIn wsX7_work wsX7_tell := goodIn_r _ [13, 14, 15, 16, 17, 18, 19, 20, 21, 12, 22, 23, 24, 25, 26, 27, 28, 29, 30, 31, 32, 33, 34, 35, 36, 37, 38, 39, 40, 41, 70, 71, 72, 73, 74, 75, 76, 77, 78, 79, 80, 81, 82, 83, 84, 85, 86, 87, 88, 89, 90, 91, 92, 93, 94, 95, 96, 97, 98, 99, 100, 101, 102, 103, 104, 105, 106, 107, 108, 109, 110] (by decide +kernel) (by decide +kernel)
set_option maxRecDepth 20000 in
theorem gX7_work_X7_tell : GoodIn wsX7_work (wsV RX7 172 RX7 yX7_tell wsX7_tell) := goodIn_app (goodIn_of _ (by decide +kernel)) ggX7_work_X7_tell
set_option maxRecDepth 20000 in
theorem ggX7_work_X7_mix : GoodIn wsX7_work wsX7_mix := goodIn_r _ [45, 3, 14, 46, 47, 48, 49, 50, 51, 52, 53, 54, 12, 55, 23, 56, 57, 58, 59, 60, 16, 61, 62, 63, 64, 65, 19, 20, 21, 22, 66, 67, 68, 69, 24, 25, 26, 27, 28, 29, 17, 30, 31, 32, 33, 34, 15, 35, 36, 37, 38, 39, 40, 41, 70, 71, 72, 73, 74, 75, 76, 77, 78, 79, 80, 81, 82, 83, 84, 85, 86, 87, 88, 89, 90, 91, 92, 93, 94, 95, 96, 97, 98, 99, 100, 101, 102, 103, 104, 105, 106, 107, 108, 109, 110] (by decide +kernel) (by decide +kernel)
set_option maxRecDepth 20000 in
theorem gX7_work_X7_mix : GoodIn wsX7_work (wsV RX7 175 RX7 yX7_mix wsX7_mix) := goodIn_app (goodIn_of _ (by decide +kernel)) ggX7_work_X7_mix
theorem dX7_work_0 : decode cX7_work 0 = .ok (.aload_n 0, 1) := by decide +kernel
theorem dX7_work_1 : decode cX7_work 1 = .ok (.getfield 116, 3) := by decide +kernel
theorem dX7_work_4 : decode cX7_work 4 = .ok (.iload_n 1, 1) := by decide +kernel
theorem dX7_work_5 : decode cX7_work 5 = .ok (.iaload, 1) := by decide +kernel
theorem dX7_work_6 : decode cX7_work 6 = .ok (.istore_n 2, 1) := by decide +kernel
theorem dX7_work_7 : decode cX7_work 7 = .ok (.iload_n 2, 1) := by decide +kernel
theorem dX7_work_8 : decode cX7_work 8 = .ok (.ifCond .ge 4, 3) := by decide +kernel
theorem dX7_work_11 : decode cX7_work 11 = .ok (.return_, 1) := by decide +kernel
theorem dX7_work_12 : decode cX7_work 12 = .ok (.aload_n 0, 1) := by decide +kernel
theorem dX7_work_13 : decode cX7_work 13 = .ok (.getfield 89, 3) := by decide +kernel
theorem dX7_work_16 : decode cX7_work 16 = .ok (.iload_n 2, 1) := by decide +kernel
theorem dX7_work_17 : decode cX7_work 17 = .ok (.iaload, 1) := by decide +kernel
theorem dX7_work_18 : decode cX7_work 18 = .ok (.iconst 1, 1) := by decide +kernel
theorem dX7_work_19 : decode cX7_work 19 = .ok (.if_icmp .ne 23, 3) := by decide +kernel
theorem dX7_work_22 : decode cX7_work 22 = .ok (.aload_n 0, 1) := by decide +kernel
theorem dX7_work_23 : decode cX7_work 23 = .ok (.iload_n 1, 1) := by decide +kernel
theorem dX7_work_24 : decode cX7_work 24 = .ok (.aload_n 0, 1) := by decide +kernel
theorem dX7_work_25 : decode cX7_work 25 = .ok (.getfield 92, 3) := by decide +kernel
theorem dX7_work_28 : decode cX7_work 28 = .ok (.iload_n 2, 1) := by decide +kernel
theorem dX7_work_29 : decode cX7_work 29 = .ok (.iaload, 1) := by decide +kernel
theorem dX7_work_30 : decode cX7_work 30 = .ok (.aload_n 0, 1) := by decide +kernel
theorem dX7_work_31 : decode cX7_work 31 = .ok (.getfield 101, 3) := by decide +kernel
theorem dX7_work_34 : decode cX7_work 34 = .ok (.iload_n 2, 1) := by decide +kernel
theorem dX7_work_35 : decode cX7_work 35 = .ok (.iaload, 1) := by decide +kernel
theorem dX7_work_36 : decode cX7_work 36 = .ok (.invokevirtual 172, 3) := by decide +kernel
theorem dX7_work_39 : decode cX7_work 39 = .ok (.goto 9, 3) := by decide +kernel
theorem dX7_work_42 : decode cX7_work 42 = .ok (.aload_n 0, 1) := by decide +kernel
theorem dX7_work_43 : decode cX7_work 43 = .ok (.iload_n 1, 1) := by decide +kernel
theorem dX7_work_44 : decode cX7_work 44 = .ok (.iload_n 2, 1) := by decide +kernel
theorem dX7_work_45 : decode cX7_work 45 = .ok (.invokevirtual 175, 3) := by decide +kernel
theorem dX7_work_48 : decode cX7_work 48 = .ok (.aload_n 0, 1) := by decide +kernel
theorem dX7_work_49 : decode cX7_work 49 = .ok (.getfield 110, 3) := by decide +kernel
theorem dX7_work_52 : decode cX7_work 52 = .ok (.iload_n 2, 1) := by decide +kernel
theorem dX7_work_53 : decode cX7_work 53 = .ok (.iaload, 1) := by decide +kernel
theorem dX7_work_54 : decode cX7_work 54 = .ok (.aload_n 0, 1) := by decide +kernel
theorem dX7_work_55 : decode cX7_work 55 = .ok (.getfield 80, 3) := by decide +kernel
theorem dX7_work_58 : decode cX7_work 58 = .ok (.iload_n 1, 1) := by decide +kernel
theorem dX7_work_59 : decode cX7_work 59 = .ok (.iaload, 1) := by decide +kernel
theorem dX7_work_60 : decode cX7_work 60 = .ok (.if_icmp .le 27, 3) := by decide +kernel
theorem dX7_work_63 : decode cX7_work 63 = .ok (.aload_n 0, 1) := by decide +kernel
theorem dX7_work_64 : decode cX7_work 64 = .ok (.getfield 80, 3) := by decide +kernel
theorem dX7_work_67 : decode cX7_work 67 = .ok (.iload_n 1, 1) := by decide +kernel
theorem dX7_work_68 : decode cX7_work 68 = .ok (.aload_n 0, 1) := by decide +kernel
theorem dX7_work_69 : decode cX7_work 69 = .ok (.getfield 110, 3) := by decide +kernel
theorem dX7_work_72 : decode cX7_work 72 = .ok (.iload_n 2, 1) := by decide +kernel
theorem dX7_work_73 : decode cX7_work 73 = .ok (.iaload, 1) := by decide +kernel
theorem dX7_work_74 : decode cX7_work 74 = .ok (.iastore, 1) := by decide +kernel
theorem dX7_work_75 : decode cX7_work 75 = .ok (.aload_n 0, 1) := by decide +kernel
theorem dX7_work_76 : decode cX7_work 76 = .ok (.getfield 83, 3) := by decide +kernel
theorem dX7_work_79 : decode cX7_work 79 = .ok (.iload_n 1, 1) := by decide +kernel
theorem dX7_work_80 : decode cX7_work 80 = .ok (.aload_n 0, 1) := by decide +kernel
theorem dX7_work_81 : decode cX7_work 81 = .ok (.getfield 113, 3) := by decide +kernel
theorem dX7_work_84 : decode cX7_work 84 = .ok (.iload_n 2, 1) := by decide +kernel
theorem dX7_work_85 : decode cX7_work 85 = .ok (.iaload, 1) := by decide +kernel
theorem dX7_work_86 : decode cX7_work 86 = .ok (.iastore, 1) := by decide +kernel
theorem dX7_work_87 : decode cX7_work 87 = .ok (.return_, 1) := by decide +kernel
set_option maxRecDepth 20000 in
theorem ggX7_tell_X7_rank : GoodIn wsX7_tell wsX7_rank := goodIn_r _ [10, 11, 30, 31, 32, 33, 34, 35, 36, 37, 38, 39, 40, 41, 42, 43, 44, 45, 46, 47, 48, 49, 50, 51, 52, 53, 54, 55, 56, 57, 58, 59, 60, 61, 62, 63, 64, 65, 66, 67, 68, 69, 70] (by decide +kernel) (by decide +kernel)
set_option maxRecDepth 20000 in
theorem gX7_tell_X7_rank : GoodIn wsX7_tell (wsV RX7 145 RX7 yX7_rank wsX7_rank) := goodIn_app (goodIn_of _ (by decide +kernel)) ggX7_tell_X7_rank
set_option maxRecDepth 20000 in
theorem ggX7_tell_X7_stir : GoodIn wsX7_tell wsX7_stir := goodIn_r _ [15, 16, 17, 4, 18, 19, 20, 9, 21, 22, 2, 23, 24, 25, 26, 27, 28, 29, 30, 31, 32, 33, 34, 35, 36, 37, 38, 39, 40, 41, 42, 43, 44, 45, 46, 47, 48, 49, 50, 51, 52, 53, 54, 55, 56, 57, 58, 59, 60, 61, 62, 63, 64, 65, 66, 67, 68, 69, 70] (by decide +kernel) (by decide +kernel)
set_option maxRecDepth 20000 in
theorem gX7_tell_X7_stir : GoodIn wsX7_tell (wsV RX7 155 RX7 yX7_stir wsX7_stir) := goodIn_app (goodIn_of _ (by decide +kernel)) ggX7_tell_X7_stir
set_option maxRecDepth 20000 in
theorem ggX7_tell_X7_draw : GoodIn wsX7_tell wsX7_draw := goodIn_r _ [27, 28, 29, 30, 31, 32, 33, 34, 35, 36, 37, 38, 39, 40, 41, 42, 43, 44, 45, 46, 47, 48, 49, 50, 51, 52, 53, 54, 55, 56, 57, 58, 59, 60, 61, 62, 63, 64, 65, 66, 67, 68, 69, 70] (by decide +kernel) (by decide +kernel)
set_option maxRecDepth 20000 in
theorem gX7_tell_X7_draw : GoodIn wsX7_tell (wsV RX7 127 RX7 yX7_draw wsX7_draw) := goodIn_app (goodIn_of _ (by decide +kernel)) ggX7_tell_X7_draw
theorem dX7_tell_0 : decode cX7_tell 0 = .ok (.aload_n 0, 1) := by decide +kernel
theorem dX7_tell_1 : decode cX7_tell 1 = .ok (.iload_n 1, 1) := by decide +kernel
theorem dX7_tell_2 : decode cX7_tell 2 = .ok (.invokevirtual 145, 3) := by decide +kernel
theorem dX7_tell_5 : decode cX7_tell 5 = .ok (.istore 4, 2) := by decide +kernel
theorem dX7_tell_7 : decode cX7_tell 7 = .ok (.iload_n 2, 1) := by decide +kernel
theorem dX7_tell_8 : decode cX7_tell 8 = .ok (.aload_n 0, 1) := by decide +kernel
theorem dX7_tell_9 : decode cX7_tell 9 = .ok (.getfield 32, 3) := by decide +kernel
theorem dX7_tell_12 : decode cX7_tell 12 = .ok (.iload_n 1, 1) := by decide +kernel
theorem dX7_tell_13 : decode cX7_tell 13 = .ok (.iaload, 1) := by decide +kernel
theorem dX7_tell_14 : decode cX7_tell 14 = .ok (.if_icmp .ne 20, 3) := by decide +kernel
theorem dX7_tell_17 : decode cX7_tell 17 = .ok (.iload_n 3, 1) := by decide +kernel
theorem dX7_tell_18 : decode cX7_tell 18 = .ok (.iload 4, 2) := by decide +kernel
theorem dX7_tell_20 : decode cX7_tell 20 = .ok (.if_icmp .ne 14, 3) := by decide +kernel
theorem dX7_tell_23 : decode cX7_tell 23 = .ok (.aload_n 0, 1) := by decide +kernel
theorem dX7_tell_24 : decode cX7_tell 24 = .ok (.getfield 59, 3) := by decide +kernel
theorem dX7_tell_27 : decode cX7_tell 27 = .ok (.iload_n 1, 1) := by decide +kernel
theorem dX7_tell_28 : decode cX7_tell 28 = .ok (.dup2, 1) := by decide +kernel
theorem dX7_tell_29 : decode cX7_tell 29 = .ok (.iaload, 1) := by decide +kernel
theorem dX7_tell_30 : decode cX7_tell 30 = .ok (.iconst 1, 1) := by decide +kernel
theorem dX7_tell_31 : decode cX7_tell 31 = .ok (.iadd, 1) := by decide +kernel
theorem dX7_tell_32 : decode cX7_tell 32 = .ok (.iastore, 1) := by decide +kernel
theorem dX7_tell_33 : decode cX7_tell 33 = .ok (.return_, 1) := by decide +kernel
theorem dX7_tell_34 : decode cX7_tell 34 = .ok (.aload_n 0, 1) := by decide +kernel
theorem dX7_tell_35 : decode cX7_tell 35 = .ok (.iload_n 1, 1) := by decide +kernel
theorem dX7_tell_36 : decode cX7_tell 36 = .ok (.invokevirtual 155, 3) := by decide +kernel
theorem dX7_tell_39 : decode cX7_tell 39 = .ok (.iload_n 2, 1) := by decide +kernel
theorem dX7_tell_40 : decode cX7_tell 40 = .ok (.aload_n 0, 1) := by decide +kernel
theorem dX7_tell_41 : decode cX7_tell 41 = .ok (.getfield 32, 3) := by decide +kernel
theorem dX7_tell_44 : decode cX7_tell 44 = .ok (.iload_n 1, 1) := by decide +kernel
theorem dX7_tell_45 : decode cX7_tell 45 = .ok (.iaload, 1) := by decide +kernel
theorem dX7_tell_46 : decode cX7_tell 46 = .ok (.if_icmp .lt 19, 3) := by decide +kernel
theorem dX7_tell_49 : decode cX7_tell 49 = .ok (.iload_n 2, 1) := by decide +kernel
theorem dX7_tell_50 : decode cX7_tell 50 = .ok (.aload_n 0, 1) := by decide +kernel
theorem dX7_tell_51 : decode cX7_tell 51 = .ok (.getfield 32, 3) := by decide +kernel
theorem dX7_tell_54 : decode cX7_tell 54 = .ok (.iload_n 1, 1) := by decide +kernel
theorem dX7_tell_55 : decode cX7_tell 55 = .ok (.iaload, 1) := by decide +kernel
theorem dX7_tell_56 : decode cX7_tell 56 = .ok (.if_icmp .ne 13, 3) := by decide +kernel
theorem dX7_tell_59 : decode cX7_tell 59 = .ok (.iload_n 3, 1) := by decide +kernel
theorem dX7_tell_60 : decode cX7_tell 60 = .ok (.iload 4, 2) := by decide +kernel
theorem dX7_tell_62 : decode cX7_tell 62 = .ok (.if_icmp .ge 7, 3) := by decide +kernel
theorem dX7_tell_65 : decode cX7_tell 65 = .ok (.iconst 1, 1) := by decide +kernel
theorem dX7_tell_66 : decode cX7_tell 66 = .ok (.goto 4, 3) := by decide +kernel
theorem dX7_tell_69 : decode cX7_tell 69 = .ok (.iconst 0, 1) := by decide +kernel
theorem dX7_tell_70 : decode cX7_tell 70 = .ok (.istore 5, 2) := by decide +kernel
theorem dX7_tell_72 : decode cX7_tell 72 = .ok (.iload 5, 2) := by decide +kernel
theorem dX7_tell_74 : decode cX7_tell 74 = .ok (.ifCond .eq 33, 3) := by decide +kernel
theorem dX7_tell_77 : decode cX7_tell 77 = .ok (.aload_n 0, 1) := by decide +kernel
theorem dX7_tell_78 : decode cX7_tell 78 = .ok (.getfield 62, 3) := by decide +kernel
theorem dX7_tell_81 : decode cX7_tell 81 = .ok (.iload_n 1, 1) := by decide +kernel
theorem dX7_tell_82 : decode cX7_tell 82 = .ok (.iaload, 1) := by decide +kernel
theorem dX7_tell_83 : decode cX7_tell 83 = .ok (.ifCond .ge 24, 3) := by decide +kernel
theorem dX7_tell_86 : decode cX7_tell 86 = .ok (.aload_n 0, 1) := by decide +kernel
theorem dX7_tell_87 : decode cX7_tell 87 = .ok (.getfield 62, 3) := by decide +kernel
theorem dX7_tell_90 : decode cX7_tell 90 = .ok (.iload_n 1, 1) := by decide +kernel
theorem dX7_tell_91 : decode cX7_tell 91 = .ok (.aload_n 0, 1) := by decide +kernel
theorem dX7_tell_92 : decode cX7_tell 92 = .ok (.getfield 131, 3) := by decide +kernel
theorem dX7_tell_95 : decode cX7_tell 95 = .ok (.iconst 1, 1) := by decide +kernel
theorem dX7_tell_96 : decode cX7_tell 96 = .ok (.iadd, 1) := by decide +kernel
theorem dX7_tell_97 : decode cX7_tell 97 = .ok (.aload_n 0, 1) := by decide +kernel
theorem dX7_tell_98 : decode cX7_tell 98 = .ok (.aload_n 0, 1) := by decide +kernel
theorem dX7_tell_99 : decode cX7_tell 99 = .ok (.getfield 22, 3) := by decide +kernel
theorem dX7_tell_102 : decode cX7_tell 102 = .ok (.invokevirtual 127, 3) := by decide +kernel
theorem dX7_tell_105 : decode cX7_tell 105 = .ok (.iadd, 1) := by decide +kernel
theorem dX7_tell_106 : decode cX7_tell 106 = .ok (.iastore, 1) := by decide +kernel
theorem dX7_tell_107 : decode cX7_tell 107 = .ok (.return_, 1) := by decide +kernel
set_option maxRecDepth 20000 in
theorem ggX7_mix_X7_empty : GoodIn wsX7_mix wsX7_empty := goodIn_r _ [13, 14, 15, 54, 55, 56, 57, 58, 59, 60, 61, 62, 63, 64, 65, 66, 67, 68, 69, 70, 71, 72, 73, 74, 75, 76, 77, 78, 79, 80, 81, 82, 83, 84, 85, 86, 87, 88, 89, 90, 91, 92, 93, 94] (by decide +kernel) (by decide +kernel)
set_option maxRecDepth 20000 in
theorem gX7_mix_X7_empty : GoodIn wsX7_mix (wsV RX7 151 RX7 yX7_empty wsX7_empty) := goodIn_app (goodIn_of _ (by decide +kernel)) ggX7_mix_X7_empty
set_option maxRecDepth 20000 in
theorem ggX7_mix_X7_own : GoodIn wsX7_mix wsX7_own := goodIn_r _ [19, 20, 21, 22, 23, 12, 24, 14, 15, 3, 5, 25, 26, 27, 28, 29, 30, 31, 32, 33, 9, 10, 11, 13, 34, 35, 36, 37, 38, 39, 40, 41, 42, 43, 44, 45, 46, 47, 48, 49, 50, 51, 52, 53, 54, 55, 56, 57, 58, 59, 60, 61, 62, 63, 64, 65, 66, 67, 68, 69, 70, 71, 72, 73, 74, 75, 76, 77, 78, 79, 80, 81, 82, 83, 84, 85, 86, 87, 88, 89, 90, 91, 92, 93, 94] (by decide +kernel) (by decide +kernel)
set_option maxRecDepth 20000 in
theorem gX7_mix_X7_own : GoodIn wsX7_mix (wsV RX7 162 RX7 yX7_own wsX7_own) := goodIn_app (goodIn_of _ (by decide +kernel)) ggX7_mix_X7_own
set_option maxRecDepth 20000 in
theorem ggX7_mix_X7_stir : GoodIn wsX7_mix wsX7_stir := goodIn_r _ [37, 38, 39, 40, 41, 42, 43, 12, 44, 45, 46, 47, 48, 49, 50, 51, 52, 53, 54, 55, 56, 57, 58, 59, 60, 61, 62, 63, 64, 65, 66, 67, 68, 69, 70, 71, 72, 73, 74, 75, 76, 77, 78, 79, 80, 81, 82, 83, 84, 85, 86, 87, 88, 89, 90, 91, 92, 93, 94] (by decide +kernel) (by decide +kernel)
set_option maxRecDepth 20000 in
theorem gX7_mix_X7_stir : GoodIn wsX7_mix (wsV RX7 155 RX7 yX7_stir wsX7_stir) := goodIn_app (goodIn_of _ (by decide +kernel)) ggX7_mix_X7_stir
theorem dX7_mix_0 : decode cX7_mix 0 = .ok (.aload_n 0, 1) := by decide +kernel
theorem dX7_mix_1 : decode cX7_mix 1 = .ok (.getfield 92, 3) := by decide +kernel
theorem dX7_mix_4 : decode cX7_mix 4 = .ok (.iload_n 2, 1) := by decide +kernel
theorem dX7_mix_5 : decode cX7_mix 5 = .ok (.iaload, 1) := by decide +kernel
theorem dX7_mix_6 : decode cX7_mix 6 = .ok (.aload_n 0, 1) := by decide +kernel
theorem dX7_mix_7 : decode cX7_mix 7 = .ok (.getfield 32, 3) := by decide +kernel
theorem dX7_mix_10 : decode cX7_mix 10 = .ok (.iload_n 1, 1) := by decide +kernel
theorem dX7_mix_11 : decode cX7_mix 11 = .ok (.iaload, 1) := by decide +kernel
theorem dX7_mix_12 : decode cX7_mix 12 = .ok (.if_icmp .le 44, 3) := by decide +kernel
theorem dX7_mix_15 : decode cX7_mix 15 = .ok (.aload_n 0, 1) := by decide +kernel
theorem dX7_mix_16 : decode cX7_mix 16 = .ok (.getfield 32, 3) := by decide +kernel
theorem dX7_mix_19 : decode cX7_mix 19 = .ok (.iload_n 1, 1) := by decide +kernel
theorem dX7_mix_20 : decode cX7_mix 20 = .ok (.aload_n 0, 1) := by decide +kernel
theorem dX7_mix_21 : decode cX7_mix 21 = .ok (.getfield 92, 3) := by decide +kernel
theorem dX7_mix_24 : decode cX7_mix 24 = .ok (.iload_n 2, 1) := by decide +kernel
theorem dX7_mix_25 : decode cX7_mix 25 = .ok (.iaload, 1) := by decide +kernel
theorem dX7_mix_26 : decode cX7_mix 26 = .ok (.iastore, 1) := by decide +kernel
theorem dX7_mix_27 : decode cX7_mix 27 = .ok (.aload_n 0, 1) := by decide +kernel
theorem dX7_mix_28 : decode cX7_mix 28 = .ok (.getfield 35, 3) := by decide +kernel
theorem dX7_mix_31 : decode cX7_mix 31 = .ok (.iload_n 1, 1) := by decide +kernel
theorem dX7_mix_32 : decode cX7_mix 32 = .ok (.aload_n 0, 1) := by decide +kernel
theorem dX7_mix_33 : decode cX7_mix 33 = .ok (.getfield 95, 3) := by decide +kernel
theorem dX7_mix_36 : decode cX7_mix 36 = .ok (.iload_n 2, 1) := by decide +kernel
theorem dX7_mix_37 : decode cX7_mix 37 = .ok (.iaload, 1) := by decide +kernel
theorem dX7_mix_38 : decode cX7_mix 38 = .ok (.iastore, 1) := by decide +kernel
theorem dX7_mix_39 : decode cX7_mix 39 = .ok (.aload_n 0, 1) := by decide +kernel
theorem dX7_mix_40 : decode cX7_mix 40 = .ok (.getfield 38, 3) := by decide +kernel
theorem dX7_mix_43 : decode cX7_mix 43 = .ok (.iload_n 1, 1) := by decide +kernel
theorem dX7_mix_44 : decode cX7_mix 44 = .ok (.aload_n 0, 1) := by decide +kernel
theorem dX7_mix_45 : decode cX7_mix 45 = .ok (.getfield 98, 3) := by decide +kernel
theorem dX7_mix_48 : decode cX7_mix 48 = .ok (.iload_n 2, 1) := by decide +kernel
theorem dX7_mix_49 : decode cX7_mix 49 = .ok (.iaload, 1) := by decide +kernel
theorem dX7_mix_50 : decode cX7_mix 50 = .ok (.iastore, 1) := by decide +kernel
theorem dX7_mix_51 : decode cX7_mix 51 = .ok (.aload_n 0, 1) := by decide +kernel
theorem dX7_mix_52 : decode cX7_mix 52 = .ok (.iload_n 1, 1) := by decide +kernel
theorem dX7_mix_53 : decode cX7_mix 53 = .ok (.invokevirtual 151, 3) := by decide +kernel
theorem dX7_mix_56 : decode cX7_mix 56 = .ok (.aload_n 0, 1) := by decide +kernel
theorem dX7_mix_57 : decode cX7_mix 57 = .ok (.getfield 92, 3) := by decide +kernel
theorem dX7_mix_60 : decode cX7_mix 60 = .ok (.iload_n 2, 1) := by decide +kernel
theorem dX7_mix_61 : decode cX7_mix 61 = .ok (.iaload, 1) := by decide +kernel
theorem dX7_mix_62 : decode cX7_mix 62 = .ok (.aload_n 0, 1) := by decide +kernel
theorem dX7_mix_63 : decode cX7_mix 63 = .ok (.getfield 32, 3) := by decide +kernel
theorem dX7_mix_66 : decode cX7_mix 66 = .ok (.iload_n 1, 1) := by decide +kernel
theorem dX7_mix_67 : decode cX7_mix 67 = .ok (.iaload, 1) := by decide +kernel
theorem dX7_mix_68 : decode cX7_mix 68 = .ok (.if_icmp .ne 53, 3) := by decide +kernel
theorem dX7_mix_71 : decode cX7_mix 71 = .ok (.aload_n 0, 1) := by decide +kernel
theorem dX7_mix_72 : decode cX7_mix 72 = .ok (.getfield 95, 3) := by decide +kernel
theorem dX7_mix_75 : decode cX7_mix 75 = .ok (.iload_n 2, 1) := by decide +kernel
theorem dX7_mix_76 : decode cX7_mix 76 = .ok (.iaload, 1) := by decide +kernel
theorem dX7_mix_77 : decode cX7_mix 77 = .ok (.aload_n 0, 1) := by decide +kernel
theorem dX7_mix_78 : decode cX7_mix 78 = .ok (.getfield 35, 3) := by decide +kernel
theorem dX7_mix_81 : decode cX7_mix 81 = .ok (.iload_n 1, 1) := by decide +kernel
theorem dX7_mix_82 : decode cX7_mix 82 = .ok (.iaload, 1) := by decide +kernel
theorem dX7_mix_83 : decode cX7_mix 83 = .ok (.if_icmp .ne 38, 3) := by decide +kernel
theorem dX7_mix_86 : decode cX7_mix 86 = .ok (.aload_n 0, 1) := by decide +kernel
theorem dX7_mix_87 : decode cX7_mix 87 = .ok (.getfield 98, 3) := by decide +kernel
theorem dX7_mix_90 : decode cX7_mix 90 = .ok (.iload_n 2, 1) := by decide +kernel
theorem dX7_mix_91 : decode cX7_mix 91 = .ok (.iaload, 1) := by decide +kernel
theorem dX7_mix_92 : decode cX7_mix 92 = .ok (.aload_n 0, 1) := by decide +kernel
theorem dX7_mix_93 : decode cX7_mix 93 = .ok (.getfield 38, 3) := by decide +kernel
theorem dX7_mix_96 : decode cX7_mix 96 = .ok (.iload_n 1, 1) := by decide +kernel
theorem dX7_mix_97 : decode cX7_mix 97 = .ok (.iaload, 1) := by decide +kernel
theorem dX7_mix_98 : decode cX7_mix 98 = .ok (.if_icmp .ne 23, 3) := by decide +kernel
theorem dX7_mix_101 : decode cX7_mix 101 = .ok (.aload_n 0, 1) := by decide +kernel
theorem dX7_mix_102 : decode cX7_mix 102 = .ok (.iload_n 1, 1) := by decide +kernel
theorem dX7_mix_103 : decode cX7_mix 103 = .ok (.aload_n 0, 1) := by decide +kernel
theorem dX7_mix_104 : decode cX7_mix 104 = .ok (.getfield 104, 3) := by decide +kernel
theorem dX7_mix_107 : decode cX7_mix 107 = .ok (.iload_n 2, 1) := by decide +kernel
theorem dX7_mix_108 : decode cX7_mix 108 = .ok (.iaload, 1) := by decide +kernel
theorem dX7_mix_109 : decode cX7_mix 109 = .ok (.aload_n 0, 1) := by decide +kernel
theorem dX7_mix_110 : decode cX7_mix 110 = .ok (.getfield 107, 3) := by decide +kernel
theorem dX7_mix_113 : decode cX7_mix 113 = .ok (.iload_n 2, 1) := by decide +kernel
theorem dX7_mix_114 : decode cX7_mix 114 = .ok (.iaload, 1) := by decide +kernel
theorem dX7_mix_115 : decode cX7_mix 115 = .ok (.invokevirtual 162, 3) := by decide +kernel
theorem dX7_mix_118 : decode cX7_mix 118 = .ok (.goto 8, 3) := by decide +kernel
theorem dX7_mix_121 : decode cX7_mix 121 = .ok (.aload_n 0, 1) := by decide +kernel
theorem dX7_mix_122 : decode cX7_mix 122 = .ok (.iload_n 1, 1) := by decide +kernel
theorem dX7_mix_123 : decode cX7_mix 123 = .ok (.invokevirtual 155, 3) := by decide +kernel
theorem dX7_mix_126 : decode cX7_mix 126 = .ok (.return_, 1) := by decide +kernel
set_option maxRecDepth 20000 in
theorem ggX7_finish_X7_begin : GoodIn wsX7_finish wsX7_begin := goodIn_r _ [13, 2, 14, 15, 3, 16, 17, 18, 12, 19, 20, 21, 32, 33, 34, 35, 36, 37, 38, 39, 40, 41, 42, 43, 44, 45, 46, 47, 48, 49, 50, 51, 52, 53, 54, 55, 56, 57, 58, 59, 60, 61, 62, 63, 64, 65, 66, 67, 68, 69, 70, 71, 72] (by decide +kernel) (by decide +kernel)
set_option maxRecDepth 20000 in
theorem gX7_finish_X7_begin : GoodIn wsX7_finish (wsV RX7 134 RX7 yX7_begin wsX7_begin) := goodIn_app (goodIn_of _ (by decide +kernel)) ggX7_finish_X7_begin
set_option maxRecDepth 20000 in
theorem ggX7_finish_X7_isWhole : GoodIn wsX7_finish wsX7_isWhole := goodIn_r _ [25, 7, 26, 27, 28, 29, 12, 30, 31, 32, 33, 34, 35, 36, 37, 38, 39, 40, 41, 42, 43, 44, 45, 46, 47, 48, 49, 50, 51, 52, 53, 54, 55, 56, 57, 58, 59, 60, 61, 62, 63, 64, 65, 66, 67, 68, 69, 70, 71, 72] (by decide +kernel) (by decide +kernel)
set_option maxRecDepth 20000 in
theorem gX7_finish_X7_isWhole : GoodIn wsX7_finish (wsV RX7 178 RX7 yX7_isWhole wsX7_isWhole) := goodIn_app (goodIn_of _ (by decide +kernel)) ggX7_finish_X7_isWhole
theorem dX7_finish_0 : decode cX7_finish 0 = .ok (.aload_n 0, 1) := by decide +kernel
theorem dX7_finish_1 : decode cX7_finish 1 = .ok (.getfield 131, 3) := by decide +kernel
theorem dX7_finish_4 : decode cX7_finish 4 = .ok (.iconst 1, 1) := by decide +kernel
theorem dX7_finish_5 : decode cX7_finish 5 = .ok (.iadd, 1) := by decide +kernel
theorem dX7_finish_6 : decode cX7_finish 6 = .ok (.aload_n 0, 1) := by decide +kernel
theorem dX7_finish_7 : decode cX7_finish 7 = .ok (.getfield 53, 3) := by decide +kernel
theorem dX7_finish_10 : decode cX7_finish 10 = .ok (.iload_n 1, 1) := by decide +kernel
theorem dX7_finish_11 : decode cX7_finish 11 = .ok (.iaload, 1) := by decide +kernel
theorem dX7_finish_12 : decode cX7_finish 12 = .ok (.isub, 1) := by decide +kernel
theorem dX7_finish_13 : decode cX7_finish 13 = .ok (.aload_n 0, 1) := by decide +kernel
theorem dX7_finish_14 : decode cX7_finish 14 = .ok (.getfield 50, 3) := by decide +kernel
theorem dX7_finish_17 : decode cX7_finish 17 = .ok (.iload_n 1, 1) := by decide +kernel
theorem dX7_finish_18 : decode cX7_finish 18 = .ok (.iaload, 1) := by decide +kernel
theorem dX7_finish_19 : decode cX7_finish 19 = .ok (.if_icmp .lt 50, 3) := by decide +kernel
theorem dX7_finish_22 : decode cX7_finish 22 = .ok (.aload_n 0, 1) := by decide +kernel
theorem dX7_finish_23 : decode cX7_finish 23 = .ok (.getfield 50, 3) := by decide +kernel
theorem dX7_finish_26 : decode cX7_finish 26 = .ok (.iload_n 1, 1) := by decide +kernel
theorem dX7_finish_27 : decode cX7_finish 27 = .ok (.iconst 2, 1) := by decide +kernel
theorem dX7_finish_28 : decode cX7_finish 28 = .ok (.aload_n 0, 1) := by decide +kernel
theorem dX7_finish_29 : decode cX7_finish 29 = .ok (.getfield 50, 3) := by decide +kernel
theorem dX7_finish_32 : decode cX7_finish 32 = .ok (.iload_n 1, 1) := by decide +kernel
theorem dX7_finish_33 : decode cX7_finish 33 = .ok (.iaload, 1) := by decide +kernel
theorem dX7_finish_34 : decode cX7_finish 34 = .ok (.imul, 1) := by decide +kernel
theorem dX7_finish_35 : decode cX7_finish 35 = .ok (.aload_n 0, 1) := by decide +kernel
theorem dX7_finish_36 : decode cX7_finish 36 = .ok (.getfield 19, 3) := by decide +kernel
theorem dX7_finish_39 : decode cX7_finish 39 = .ok (.if_icmp .le 10, 3) := by decide +kernel
theorem dX7_finish_42 : decode cX7_finish 42 = .ok (.aload_n 0, 1) := by decide +kernel
theorem dX7_finish_43 : decode cX7_finish 43 = .ok (.getfield 19, 3) := by decide +kernel
theorem dX7_finish_46 : decode cX7_finish 46 = .ok (.goto 11, 3) := by decide +kernel
theorem dX7_finish_49 : decode cX7_finish 49 = .ok (.iconst 2, 1) := by decide +kernel
theorem dX7_finish_50 : decode cX7_finish 50 = .ok (.aload_n 0, 1) := by decide +kernel
theorem dX7_finish_51 : decode cX7_finish 51 = .ok (.getfield 50, 3) := by decide +kernel
theorem dX7_finish_54 : decode cX7_finish 54 = .ok (.iload_n 1, 1) := by decide +kernel
theorem dX7_finish_55 : decode cX7_finish 55 = .ok (.iaload, 1) := by decide +kernel
theorem dX7_finish_56 : decode cX7_finish 56 = .ok (.imul, 1) := by decide +kernel
theorem dX7_finish_57 : decode cX7_finish 57 = .ok (.iastore, 1) := by decide +kernel
theorem dX7_finish_58 : decode cX7_finish 58 = .ok (.aload_n 0, 1) := by decide +kernel
theorem dX7_finish_59 : decode cX7_finish 59 = .ok (.iload_n 1, 1) := by decide +kernel
theorem dX7_finish_60 : decode cX7_finish 60 = .ok (.aload_n 0, 1) := by decide +kernel
theorem dX7_finish_61 : decode cX7_finish 61 = .ok (.getfield 131, 3) := by decide +kernel
theorem dX7_finish_64 : decode cX7_finish 64 = .ok (.iconst 1, 1) := by decide +kernel
theorem dX7_finish_65 : decode cX7_finish 65 = .ok (.iadd, 1) := by decide +kernel
theorem dX7_finish_66 : decode cX7_finish 66 = .ok (.invokevirtual 134, 3) := by decide +kernel
theorem dX7_finish_69 : decode cX7_finish 69 = .ok (.aload_n 0, 1) := by decide +kernel
theorem dX7_finish_70 : decode cX7_finish 70 = .ok (.getfield 80, 3) := by decide +kernel
theorem dX7_finish_73 : decode cX7_finish 73 = .ok (.iload_n 1, 1) := by decide +kernel
theorem dX7_finish_74 : decode cX7_finish 74 = .ok (.iaload, 1) := by decide +kernel
theorem dX7_finish_75 : decode cX7_finish 75 = .ok (.ifCond .le 53, 3) := by decide +kernel
theorem dX7_finish_78 : decode cX7_finish 78 = .ok (.aload_n 0, 1) := by decide +kernel
theorem dX7_finish_79 : decode cX7_finish 79 = .ok (.getfield 131, 3) := by decide +kernel
theorem dX7_finish_82 : decode cX7_finish 82 = .ok (.iconst 1, 1) := by decide +kernel
theorem dX7_finish_83 : decode cX7_finish 83 = .ok (.iadd, 1) := by decide +kernel
theorem dX7_finish_84 : decode cX7_finish 84 = .ok (.aload_n 0, 1) := by decide +kernel
theorem dX7_finish_85 : decode cX7_finish 85 = .ok (.getfield 83, 3) := by decide +kernel
theorem dX7_finish_88 : decode cX7_finish 88 = .ok (.iload_n 1, 1) := by decide +kernel
theorem dX7_finish_89 : decode cX7_finish 89 = .ok (.iaload, 1) := by decide +kernel
theorem dX7_finish_90 : decode cX7_finish 90 = .ok (.if_icmp .lt 38, 3) := by decide +kernel
theorem dX7_finish_93 : decode cX7_finish 93 = .ok (.aload_n 0, 1) := by decide +kernel
theorem dX7_finish_94 : decode cX7_finish 94 = .ok (.getfield 32, 3) := by decide +kernel
theorem dX7_finish_97 : decode cX7_finish 97 = .ok (.iload_n 1, 1) := by decide +kernel
theorem dX7_finish_98 : decode cX7_finish 98 = .ok (.iaload, 1) := by decide +kernel
theorem dX7_finish_99 : decode cX7_finish 99 = .ok (.aload_n 0, 1) := by decide +kernel
theorem dX7_finish_100 : decode cX7_finish 100 = .ok (.getfield 80, 3) := by decide +kernel
theorem dX7_finish_103 : decode cX7_finish 103 = .ok (.iload_n 1, 1) := by decide +kernel
theorem dX7_finish_104 : decode cX7_finish 104 = .ok (.iaload, 1) := by decide +kernel
theorem dX7_finish_105 : decode cX7_finish 105 = .ok (.if_icmp .ne 23, 3) := by decide +kernel
theorem dX7_finish_108 : decode cX7_finish 108 = .ok (.aload_n 0, 1) := by decide +kernel
theorem dX7_finish_109 : decode cX7_finish 109 = .ok (.iload_n 1, 1) := by decide +kernel
theorem dX7_finish_110 : decode cX7_finish 110 = .ok (.invokevirtual 178, 3) := by decide +kernel
theorem dX7_finish_113 : decode cX7_finish 113 = .ok (.ifCond .eq 15, 3) := by decide +kernel
theorem dX7_finish_116 : decode cX7_finish 116 = .ok (.aload_n 0, 1) := by decide +kernel
theorem dX7_finish_117 : decode cX7_finish 117 = .ok (.getfield 47, 3) := by decide +kernel
theorem dX7_finish_120 : decode cX7_finish 120 = .ok (.iload_n 1, 1) := by decide +kernel
theorem dX7_finish_121 : decode cX7_finish 121 = .ok (.aload_n 0, 1) := by decide +kernel
theorem dX7_finish_122 : decode cX7_finish 122 = .ok (.getfield 32, 3) := by decide +kernel
theorem dX7_finish_125 : decode cX7_finish 125 = .ok (.iload_n 1, 1) := by decide +kernel
theorem dX7_finish_126 : decode cX7_finish 126 = .ok (.iaload, 1) := by decide +kernel
theorem dX7_finish_127 : decode cX7_finish 127 = .ok (.iastore, 1) := by decide +kernel
theorem dX7_finish_128 : decode cX7_finish 128 = .ok (.return_, 1) := by decide +kernel
theorem dX7_greatestKept_0 : decode cX7_greatestKept 0 = .ok (.iconst 0, 1) := by decide +kernel
theorem dX7_greatestKept_1 : decode cX7_greatestKept 1 = .ok (.istore_n 1, 1) := by decide +kernel
theorem dX7_greatestKept_2 : decode cX7_greatestKept 2 = .ok (.iconst 0, 1) := by decide +kernel
theorem dX7_greatestKept_3 : decode cX7_greatestKept 3 = .ok (.istore_n 2, 1) := by decide +kernel
theorem dX7_greatestKept_4 : decode cX7_greatestKept 4 = .ok (.iload_n 2, 1) := by decide +kernel
theorem dX7_greatestKept_5 : decode cX7_greatestKept 5 = .ok (.aload_n 0, 1) := by decide +kernel
theorem dX7_greatestKept_6 : decode cX7_greatestKept 6 = .ok (.getfield 119, 3) := by decide +kernel
theorem dX7_greatestKept_9 : decode cX7_greatestKept 9 = .ok (.if_icmp .ge 26, 3) := by decide +kernel
theorem dX7_greatestKept_12 : decode cX7_greatestKept 12 = .ok (.aload_n 0, 1) := by decide +kernel
theorem dX7_greatestKept_13 : decode cX7_greatestKept 13 = .ok (.getfield 32, 3) := by decide +kernel
theorem dX7_greatestKept_16 : decode cX7_greatestKept 16 = .ok (.iload_n 2, 1) := by decide +kernel
theorem dX7_greatestKept_17 : decode cX7_greatestKept 17 = .ok (.iaload, 1) := by decide +kernel
theorem dX7_greatestKept_18 : decode cX7_greatestKept 18 = .ok (.iload_n 1, 1) := by decide +kernel
theorem dX7_greatestKept_19 : decode cX7_greatestKept 19 = .ok (.if_icmp .le 10, 3) := by decide +kernel
theorem dX7_greatestKept_22 : decode cX7_greatestKept 22 = .ok (.aload_n 0, 1) := by decide +kernel
theorem dX7_greatestKept_23 : decode cX7_greatestKept 23 = .ok (.getfield 32, 3) := by decide +kernel
theorem dX7_greatestKept_26 : decode cX7_greatestKept 26 = .ok (.iload_n 2, 1) := by decide +kernel
theorem dX7_greatestKept_27 : decode cX7_greatestKept 27 = .ok (.iaload, 1) := by decide +kernel
theorem dX7_greatestKept_28 : decode cX7_greatestKept 28 = .ok (.istore_n 1, 1) := by decide +kernel
theorem dX7_greatestKept_29 : decode cX7_greatestKept 29 = .ok (.iinc 2 1, 3) := by decide +kernel
theorem dX7_greatestKept_32 : decode cX7_greatestKept 32 = .ok (.goto (-28), 3) := by decide +kernel
theorem dX7_greatestKept_35 : decode cX7_greatestKept 35 = .ok (.iload_n 1, 1) := by decide +kernel
theorem dX7_greatestKept_36 : decode cX7_greatestKept 36 = .ok (.ireturn, 1) := by decide +kernel
set_option maxRecDepth 20000 in
theorem ggX7_look_X7_greatestKept : GoodIn wsX7_look wsX7_greatestKept := goodIn_r _ [10, 3, 4, 21, 22, 23, 24, 25, 26, 27, 28, 29, 30, 31, 32, 33, 34, 35, 36, 37, 38, 39, 40, 41, 42, 43, 44, 45, 46, 47, 48, 49, 50, 51, 52, 53, 54, 55, 56, 57, 58, 59, 60, 61] (by decide +kernel) (by decide +kernel)
set_option maxRecDepth 20000 in
theorem gX7_look_X7_greatestKept : GoodIn wsX7_look (wsV RX7 181 RX7 yX7_greatestKept wsX7_greatestKept) := goodIn_app (goodIn_of _ (by decide +kernel)) ggX7_look_X7_greatestKept
set_option maxRecDepth 20000 in
theorem ggX7_look_X7_isWhole : GoodIn wsX7_look wsX7_isWhole := goodIn_r _ [14, 4, 15, 16, 17, 18, 9, 19, 20, 21, 22, 23, 24, 25, 26, 27, 28, 29, 30, 31, 32, 33, 34, 35, 36, 37, 38, 39, 40, 41, 42, 43, 44, 45, 46, 47, 48, 49, 50, 51, 52, 53, 54, 55, 56, 57, 58, 59, 60, 61] (by decide +kernel) (by decide +kernel)
set_option maxRecDepth 20000 in
theorem gX7_look_X7_isWhole : GoodIn wsX7_look (wsV RX7 178 RX7 yX7_isWhole wsX7_isWhole) := goodIn_app (goodIn_of _ (by decide +kernel)) ggX7_look_X7_isWhole
theorem dX7_look_0 : decode cX7_look 0 = .ok (.aload_n 0, 1) := by decide +kernel
theorem dX7_look_1 : decode cX7_look 1 = .ok (.invokevirtual 181, 3) := by decide +kernel
theorem dX7_look_4 : decode cX7_look 4 = .ok (.istore_n 1, 1) := by decide +kernel
theorem dX7_look_5 : decode cX7_look 5 = .ok (.iload_n 1, 1) := by decide +kernel
theorem dX7_look_6 : decode cX7_look 6 = .ok (.aload_n 0, 1) := by decide +kernel
theorem dX7_look_7 : decode cX7_look 7 = .ok (.getfield 185, 3) := by decide +kernel
theorem dX7_look_10 : decode cX7_look 10 = .ok (.if_icmp .le 13, 3) := by decide +kernel
theorem dX7_look_13 : decode cX7_look 13 = .ok (.aload_n 0, 1) := by decide +kernel
theorem dX7_look_14 : decode cX7_look 14 = .ok (.iload_n 1, 1) := by decide +kernel
theorem dX7_look_15 : decode cX7_look 15 = .ok (.putfield 185, 3) := by decide +kernel
theorem dX7_look_18 : decode cX7_look 18 = .ok (.aload_n 0, 1) := by decide +kernel
theorem dX7_look_19 : decode cX7_look 19 = .ok (.iconst (-1), 1) := by decide +kernel
theorem dX7_look_20 : decode cX7_look 20 = .ok (.putfield 86, 3) := by decide +kernel
theorem dX7_look_23 : decode cX7_look 23 = .ok (.iload_n 1, 1) := by decide +kernel
theorem dX7_look_24 : decode cX7_look 24 = .ok (.ifCond .le 7, 3) := by decide +kernel
theorem dX7_look_27 : decode cX7_look 27 = .ok (.iconst 1, 1) := by decide +kernel
theorem dX7_look_28 : decode cX7_look 28 = .ok (.goto 4, 3) := by decide +kernel
theorem dX7_look_31 : decode cX7_look 31 = .ok (.iconst 0, 1) := by decide +kernel
theorem dX7_look_32 : decode cX7_look 32 = .ok (.istore_n 2, 1) := by decide +kernel
theorem dX7_look_33 : decode cX7_look 33 = .ok (.iconst 0, 1) := by decide +kernel
theorem dX7_look_34 : decode cX7_look 34 = .ok (.istore_n 3, 1) := by decide +kernel
theorem dX7_look_35 : decode cX7_look 35 = .ok (.iload_n 3, 1) := by decide +kernel
theorem dX7_look_36 : decode cX7_look 36 = .ok (.aload_n 0, 1) := by decide +kernel
theorem dX7_look_37 : decode cX7_look 37 = .ok (.getfield 119, 3) := by decide +kernel
theorem dX7_look_40 : decode cX7_look 40 = .ok (.if_icmp .ge 37, 3) := by decide +kernel
theorem dX7_look_43 : decode cX7_look 43 = .ok (.iload_n 2, 1) := by decide +kernel
theorem dX7_look_44 : decode cX7_look 44 = .ok (.ifCond .eq 25, 3) := by decide +kernel
theorem dX7_look_47 : decode cX7_look 47 = .ok (.aload_n 0, 1) := by decide +kernel
theorem dX7_look_48 : decode cX7_look 48 = .ok (.getfield 32, 3) := by decide +kernel
theorem dX7_look_51 : decode cX7_look 51 = .ok (.iload_n 3, 1) := by decide +kernel
theorem dX7_look_52 : decode cX7_look 52 = .ok (.iaload, 1) := by decide +kernel
theorem dX7_look_53 : decode cX7_look 53 = .ok (.iload_n 1, 1) := by decide +kernel
theorem dX7_look_54 : decode cX7_look 54 = .ok (.if_icmp .ne 15, 3) := by decide +kernel
theorem dX7_look_57 : decode cX7_look 57 = .ok (.aload_n 0, 1) := by decide +kernel
theorem dX7_look_58 : decode cX7_look 58 = .ok (.iload_n 3, 1) := by decide +kernel
theorem dX7_look_59 : decode cX7_look 59 = .ok (.invokevirtual 178, 3) := by decide +kernel
theorem dX7_look_62 : decode cX7_look 62 = .ok (.ifCond .eq 7, 3) := by decide +kernel
theorem dX7_look_65 : decode cX7_look 65 = .ok (.iconst 1, 1) := by decide +kernel
theorem dX7_look_66 : decode cX7_look 66 = .ok (.goto 4, 3) := by decide +kernel
theorem dX7_look_69 : decode cX7_look 69 = .ok (.iconst 0, 1) := by decide +kernel
theorem dX7_look_70 : decode cX7_look 70 = .ok (.istore_n 2, 1) := by decide +kernel
theorem dX7_look_71 : decode cX7_look 71 = .ok (.iinc 3 1, 3) := by decide +kernel
theorem dX7_look_74 : decode cX7_look 74 = .ok (.goto (-39), 3) := by decide +kernel
theorem dX7_look_77 : decode cX7_look 77 = .ok (.iload_n 2, 1) := by decide +kernel
theorem dX7_look_78 : decode cX7_look 78 = .ok (.ifCond .eq 18, 3) := by decide +kernel
theorem dX7_look_81 : decode cX7_look 81 = .ok (.aload_n 0, 1) := by decide +kernel
theorem dX7_look_82 : decode cX7_look 82 = .ok (.getfield 86, 3) := by decide +kernel
theorem dX7_look_85 : decode cX7_look 85 = .ok (.ifCond .ge 11, 3) := by decide +kernel
theorem dX7_look_88 : decode cX7_look 88 = .ok (.aload_n 0, 1) := by decide +kernel
theorem dX7_look_89 : decode cX7_look 89 = .ok (.aload_n 0, 1) := by decide +kernel
theorem dX7_look_90 : decode cX7_look 90 = .ok (.getfield 131, 3) := by decide +kernel
theorem dX7_look_93 : decode cX7_look 93 = .ok (.putfield 86, 3) := by decide +kernel
theorem dX7_look_96 : decode cX7_look 96 = .ok (.return_, 1) := by decide +kernel
set_option maxRecDepth 20000 in
theorem ggX7_ticks_X7_isIn : GoodIn wsX7_ticks wsX7_isIn := goodIn_r _ [7] (by decide +kernel) (by decide +kernel)
set_option maxRecDepth 20000 in
theorem gX7_ticks_X7_isIn : GoodIn wsX7_ticks (va_wsS RX7 122 yX7_isIn wsX7_isIn) := goodIn_app (goodIn_of _ (by decide +kernel)) ggX7_ticks_X7_isIn
set_option maxRecDepth 20000 in
theorem ggX7_ticks_X7_send : GoodIn wsX7_ticks wsX7_send := goodIn_r _ [11, 12, 13, 14, 15, 16, 17, 18, 19, 20, 21, 22, 23, 24, 1, 25, 26, 27, 28, 29, 30, 31, 32, 33, 6, 34, 35, 36, 37, 38, 39, 40, 41, 42, 43, 44, 45, 46, 47, 48, 118, 119, 120, 121, 122, 123, 124, 125, 126, 127, 128, 129, 130, 131, 132, 133, 134, 135, 136, 137, 138, 139, 140, 141, 142, 143, 144, 145, 146, 147, 148, 149, 150, 151, 152, 153, 154, 155, 156, 157, 158] (by decide +kernel) (by decide +kernel)
set_option maxRecDepth 20000 in
theorem gX7_ticks_X7_send : GoodIn wsX7_ticks (wsV RX7 189 RX7 yX7_send wsX7_send) := goodIn_app (goodIn_of _ (by decide +kernel)) ggX7_ticks_X7_send
set_option maxRecDepth 20000 in
theorem ggX7_ticks_X7_listen : GoodIn wsX7_ticks wsX7_listen := goodIn_r _ [52, 3, 12, 53, 54, 55, 56, 43, 44, 45, 6, 46, 47, 48, 118, 119, 120, 121, 122, 123, 124, 125, 126, 127, 128, 129, 130, 131, 132, 133, 134, 135, 136, 137, 138, 139, 140, 141, 142, 143, 144, 145, 146, 147, 148, 149, 150, 151, 152, 153, 154, 155, 156, 157, 158] (by decide +kernel) (by decide +kernel)
set_option maxRecDepth 20000 in
theorem gX7_ticks_X7_listen : GoodIn wsX7_ticks (wsV RX7 192 RX7 yX7_listen wsX7_listen) := goodIn_app (goodIn_of _ (by decide +kernel)) ggX7_ticks_X7_listen
set_option maxRecDepth 20000 in
theorem ggX7_ticks_X7_work : GoodIn wsX7_ticks wsX7_work := goodIn_r _ [60, 54, 12, 13, 19, 20, 21, 23, 22, 61, 62, 63, 6, 64, 14, 28, 24, 1, 65, 31, 32, 33, 34, 35, 66, 67, 68, 69, 70, 71, 72, 73, 74, 75, 76, 27, 43, 44, 45, 46, 47, 48, 77, 78, 79, 80, 16, 15, 18, 17, 40, 41, 81, 82, 83, 84, 42, 85, 86, 87, 88, 89, 90, 91, 92, 93, 94, 95, 96, 97, 118, 119, 120, 121, 122, 123, 124, 125, 126, 127, 128, 129, 130, 131, 132, 133, 134, 135, 136, 137, 138, 139, 140, 141, 142, 143, 144, 145, 146, 147, 148, 149, 150, 151, 152, 153, 154, 155, 156, 157, 158] (by decide +kernel) (by decide +kernel)
set_option maxRecDepth 20000 in
theorem gX7_ticks_X7_work : GoodIn wsX7_ticks (wsV RX7 195 RX7 yX7_work wsX7_work) := goodIn_app (goodIn_of _ (by decide +kernel)) ggX7_ticks_X7_work
set_option maxRecDepth 20000 in
theorem ggX7_ticks_X7_finish : GoodIn wsX7_ticks wsX7_finish := goodIn_r _ [101, 1, 76, 70, 102, 21, 23, 14, 103, 72, 73, 74, 6, 75, 28, 27, 43, 44, 45, 46, 47, 48, 104, 105, 106, 107, 16, 31, 32, 33, 34, 35, 118, 119, 120, 121, 122, 123, 124, 125, 126, 127, 128, 129, 130, 131, 132, 133, 134, 135, 136, 137, 138, 139, 140, 141, 142, 143, 144, 145, 146, 147, 148, 149, 150, 151, 152, 153, 154, 155, 156, 157, 158] (by decide +kernel) (by decide +kernel)
set_option maxRecDepth 20000 in
theorem gX7_ticks_X7_finish : GoodIn wsX7_ticks (wsV RX7 198 RX7 yX7_finish wsX7_finish) := goodIn_app (goodIn_of _ (by decide +kernel)) ggX7_ticks_X7_finish
set_option maxRecDepth 20000 in
theorem ggX7_ticks_X7_look : GoodIn wsX7_ticks wsX7_look := goodIn_r _ [111, 112, 113, 3, 14, 1, 114, 115, 116, 6, 117, 104, 105, 106, 107, 16, 31, 32, 33, 34, 35, 118, 119, 120, 121, 122, 123, 124, 125, 126, 127, 128, 129, 130, 131, 132, 133, 134, 135, 136, 137, 138, 139, 140, 141, 142, 143, 144, 145, 146, 147, 148, 149, 150, 151, 152, 153, 154, 155, 156, 157, 158] (by decide +kernel) (by decide +kernel)
set_option maxRecDepth 20000 in
theorem gX7_ticks_X7_look : GoodIn wsX7_ticks (wsV RX7 201 RX7 yX7_look wsX7_look) := goodIn_app (goodIn_of _ (by decide +kernel)) ggX7_ticks_X7_look
theorem dX7_ticks_0 : decode cX7_ticks 0 = .ok (.iload_n 1, 1) := by decide +kernel
theorem dX7_ticks_1 : decode cX7_ticks 1 = .ok (.iconst 1, 1) := by decide +kernel
theorem dX7_ticks_2 : decode cX7_ticks 2 = .ok (.sipush 200, 3) := by decide +kernel
theorem dX7_ticks_5 : decode cX7_ticks 5 = .ok (.invokestatic 122, 3) := by decide +kernel
theorem dX7_ticks_8 : decode cX7_ticks 8 = .ok (.ifCond .eq 14, 3) := by decide +kernel
theorem dX7_ticks_11 : decode cX7_ticks 11 = .ok (.aload_n 0, 1) := by decide +kernel
theorem dX7_ticks_12 : decode cX7_ticks 12 = .ok (.getfield 131, 3) := by decide +kernel
theorem dX7_ticks_15 : decode cX7_ticks 15 = .ok (.iload_n 1, 1) := by decide +kernel
theorem dX7_ticks_16 : decode cX7_ticks 16 = .ok (.iadd, 1) := by decide +kernel
theorem dX7_ticks_17 : decode cX7_ticks 17 = .ok (.ldc 188, 2) := by decide +kernel
theorem dX7_ticks_19 : decode cX7_ticks 19 = .ok (.if_icmp .le 5, 3) := by decide +kernel
theorem dX7_ticks_22 : decode cX7_ticks 22 = .ok (.iconst (-1), 1) := by decide +kernel
theorem dX7_ticks_23 : decode cX7_ticks 23 = .ok (.ireturn, 1) := by decide +kernel
theorem dX7_ticks_24 : decode cX7_ticks 24 = .ok (.iconst 0, 1) := by decide +kernel
theorem dX7_ticks_25 : decode cX7_ticks 25 = .ok (.istore_n 2, 1) := by decide +kernel
theorem dX7_ticks_26 : decode cX7_ticks 26 = .ok (.iload_n 2, 1) := by decide +kernel
theorem dX7_ticks_27 : decode cX7_ticks 27 = .ok (.iload_n 1, 1) := by decide +kernel
theorem dX7_ticks_28 : decode cX7_ticks 28 = .ok (.if_icmp .ge 107, 3) := by decide +kernel
theorem dX7_ticks_31 : decode cX7_ticks 31 = .ok (.iconst 0, 1) := by decide +kernel
theorem dX7_ticks_32 : decode cX7_ticks 32 = .ok (.istore_n 3, 1) := by decide +kernel
theorem dX7_ticks_33 : decode cX7_ticks 33 = .ok (.iload_n 3, 1) := by decide +kernel
theorem dX7_ticks_34 : decode cX7_ticks 34 = .ok (.aload_n 0, 1) := by decide +kernel
theorem dX7_ticks_35 : decode cX7_ticks 35 = .ok (.getfield 119, 3) := by decide +kernel
theorem dX7_ticks_38 : decode cX7_ticks 38 = .ok (.if_icmp .ge 14, 3) := by decide +kernel
theorem dX7_ticks_41 : decode cX7_ticks 41 = .ok (.aload_n 0, 1) := by decide +kernel
theorem dX7_ticks_42 : decode cX7_ticks 42 = .ok (.iload_n 3, 1) := by decide +kernel
theorem dX7_ticks_43 : decode cX7_ticks 43 = .ok (.invokevirtual 189, 3) := by decide +kernel
theorem dX7_ticks_46 : decode cX7_ticks 46 = .ok (.iinc 3 1, 3) := by decide +kernel
theorem dX7_ticks_49 : decode cX7_ticks 49 = .ok (.goto (-16), 3) := by decide +kernel
theorem dX7_ticks_52 : decode cX7_ticks 52 = .ok (.iconst 0, 1) := by decide +kernel
theorem dX7_ticks_53 : decode cX7_ticks 53 = .ok (.istore_n 3, 1) := by decide +kernel
theorem dX7_ticks_54 : decode cX7_ticks 54 = .ok (.iload_n 3, 1) := by decide +kernel
theorem dX7_ticks_55 : decode cX7_ticks 55 = .ok (.aload_n 0, 1) := by decide +kernel
theorem dX7_ticks_56 : decode cX7_ticks 56 = .ok (.getfield 119, 3) := by decide +kernel
theorem dX7_ticks_59 : decode cX7_ticks 59 = .ok (.if_icmp .ge 14, 3) := by decide +kernel
theorem dX7_ticks_62 : decode cX7_ticks 62 = .ok (.aload_n 0, 1) := by decide +kernel
theorem dX7_ticks_63 : decode cX7_ticks 63 = .ok (.iload_n 3, 1) := by decide +kernel
theorem dX7_ticks_64 : decode cX7_ticks 64 = .ok (.invokevirtual 192, 3) := by decide +kernel
theorem dX7_ticks_67 : decode cX7_ticks 67 = .ok (.iinc 3 1, 3) := by decide +kernel
theorem dX7_ticks_70 : decode cX7_ticks 70 = .ok (.goto (-16), 3) := by decide +kernel
theorem dX7_ticks_73 : decode cX7_ticks 73 = .ok (.iconst 0, 1) := by decide +kernel
theorem dX7_ticks_74 : decode cX7_ticks 74 = .ok (.istore_n 3, 1) := by decide +kernel
theorem dX7_ticks_75 : decode cX7_ticks 75 = .ok (.iload_n 3, 1) := by decide +kernel
theorem dX7_ticks_76 : decode cX7_ticks 76 = .ok (.aload_n 0, 1) := by decide +kernel
theorem dX7_ticks_77 : decode cX7_ticks 77 = .ok (.getfield 119, 3) := by decide +kernel
theorem dX7_ticks_80 : decode cX7_ticks 80 = .ok (.if_icmp .ge 14, 3) := by decide +kernel
theorem dX7_ticks_83 : decode cX7_ticks 83 = .ok (.aload_n 0, 1) := by decide +kernel
theorem dX7_ticks_84 : decode cX7_ticks 84 = .ok (.iload_n 3, 1) := by decide +kernel
theorem dX7_ticks_85 : decode cX7_ticks 85 = .ok (.invokevirtual 195, 3) := by decide +kernel
theorem dX7_ticks_88 : decode cX7_ticks 88 = .ok (.iinc 3 1, 3) := by decide +kernel
theorem dX7_ticks_91 : decode cX7_ticks 91 = .ok (.goto (-16), 3) := by decide +kernel
theorem dX7_ticks_94 : decode cX7_ticks 94 = .ok (.iconst 0, 1) := by decide +kernel
theorem dX7_ticks_95 : decode cX7_ticks 95 = .ok (.istore_n 3, 1) := by decide +kernel
theorem dX7_ticks_96 : decode cX7_ticks 96 = .ok (.iload_n 3, 1) := by decide +kernel
theorem dX7_ticks_97 : decode cX7_ticks 97 = .ok (.aload_n 0, 1) := by decide +kernel
theorem dX7_ticks_98 : decode cX7_ticks 98 = .ok (.getfield 119, 3) := by decide +kernel
theorem dX7_ticks_101 : decode cX7_ticks 101 = .ok (.if_icmp .ge 14, 3) := by decide +kernel
theorem dX7_ticks_104 : decode cX7_ticks 104 = .ok (.aload_n 0, 1) := by decide +kernel
theorem dX7_ticks_105 : decode cX7_ticks 105 = .ok (.iload_n 3, 1) := by decide +kernel
theorem dX7_ticks_106 : decode cX7_ticks 106 = .ok (.invokevirtual 198, 3) := by decide +kernel
theorem dX7_ticks_109 : decode cX7_ticks 109 = .ok (.iinc 3 1, 3) := by decide +kernel
theorem dX7_ticks_112 : decode cX7_ticks 112 = .ok (.goto (-16), 3) := by decide +kernel
theorem dX7_ticks_115 : decode cX7_ticks 115 = .ok (.aload_n 0, 1) := by decide +kernel
theorem dX7_ticks_116 : decode cX7_ticks 116 = .ok (.invokevirtual 201, 3) := by decide +kernel
theorem dX7_ticks_119 : decode cX7_ticks 119 = .ok (.aload_n 0, 1) := by decide +kernel
theorem dX7_ticks_120 : decode cX7_ticks 120 = .ok (.dup, 1) := by decide +kernel
theorem dX7_ticks_121 : decode cX7_ticks 121 = .ok (.getfield 131, 3) := by decide +kernel
theorem dX7_ticks_124 : decode cX7_ticks 124 = .ok (.iconst 1, 1) := by decide +kernel
theorem dX7_ticks_125 : decode cX7_ticks 125 = .ok (.iadd, 1) := by decide +kernel
end
section
theorem dX7_ticks_126 : decode cX7_ticks 126 = .ok (.putfield 131, 3) := by decide +kernel
theorem dX7_ticks_129 : decode cX7_ticks 129 = .ok (.iinc 2 1, 3) := by decide +kernel
theorem dX7_ticks_132 : decode cX7_ticks 132 = .ok (.goto (-106), 3) := by decide +kernel
theorem dX7_ticks_135 : decode cX7_ticks 135 = .ok (.aload_n 0, 1) := by decide +kernel
theorem dX7_ticks_136 : decode cX7_ticks 136 = .ok (.getfield 131, 3) := by decide +kernel
theorem dX7_ticks_139 : decode cX7_ticks 139 = .ok (.ireturn, 1) := by decide +kernel
theorem dX7_headOf_0 : decode cX7_headOf 0 = .ok (.iload_n 2, 1) := by decide +kernel
theorem dX7_headOf_1 : decode cX7_headOf 1 = .ok (.istore_n 3, 1) := by decide +kernel
theorem dX7_headOf_2 : decode cX7_headOf 2 = .ok (.bipush 11, 2) := by decide +kernel
theorem dX7_headOf_4 : decode cX7_headOf 4 = .ok (.istore 4, 2) := by decide +kernel
theorem dX7_headOf_6 : decode cX7_headOf 6 = .ok (.iload 4, 2) := by decide +kernel
theorem dX7_headOf_8 : decode cX7_headOf 8 = .ok (.ifCond .lt 41, 3) := by decide +kernel
theorem dX7_headOf_11 : decode cX7_headOf 11 = .ok (.iload_n 2, 1) := by decide +kernel
theorem dX7_headOf_12 : decode cX7_headOf 12 = .ok (.ifCond .lt 37, 3) := by decide +kernel
theorem dX7_headOf_15 : decode cX7_headOf 15 = .ok (.aload_n 0, 1) := by decide +kernel
theorem dX7_headOf_16 : decode cX7_headOf 16 = .ok (.getfield 41, 3) := by decide +kernel
theorem dX7_headOf_19 : decode cX7_headOf 19 = .ok (.bipush 12, 2) := by decide +kernel
theorem dX7_headOf_21 : decode cX7_headOf 21 = .ok (.iload_n 1, 1) := by decide +kernel
theorem dX7_headOf_22 : decode cX7_headOf 22 = .ok (.imul, 1) := by decide +kernel
theorem dX7_headOf_23 : decode cX7_headOf 23 = .ok (.iload 4, 2) := by decide +kernel
theorem dX7_headOf_25 : decode cX7_headOf 25 = .ok (.iadd, 1) := by decide +kernel
theorem dX7_headOf_26 : decode cX7_headOf 26 = .ok (.iaload, 1) := by decide +kernel
theorem dX7_headOf_27 : decode cX7_headOf 27 = .ok (.ifCond .ne 6, 3) := by decide +kernel
theorem dX7_headOf_30 : decode cX7_headOf 30 = .ok (.goto 13, 3) := by decide +kernel
theorem dX7_headOf_33 : decode cX7_headOf 33 = .ok (.iload_n 3, 1) := by decide +kernel
theorem dX7_headOf_34 : decode cX7_headOf 34 = .ok (.ifCond .ne 6, 3) := by decide +kernel
theorem dX7_headOf_37 : decode cX7_headOf 37 = .ok (.iload 4, 2) := by decide +kernel
theorem dX7_headOf_39 : decode cX7_headOf 39 = .ok (.ireturn, 1) := by decide +kernel
theorem dX7_headOf_40 : decode cX7_headOf 40 = .ok (.iinc 3 (-1), 3) := by decide +kernel
theorem dX7_headOf_43 : decode cX7_headOf 43 = .ok (.iinc 4 (-1), 3) := by decide +kernel
theorem dX7_headOf_46 : decode cX7_headOf 46 = .ok (.goto (-40), 3) := by decide +kernel
theorem dX7_headOf_49 : decode cX7_headOf 49 = .ok (.iconst (-1), 1) := by decide +kernel
theorem dX7_headOf_50 : decode cX7_headOf 50 = .ok (.ireturn, 1) := by decide +kernel
set_option maxRecDepth 20000 in
theorem ggX7_machineOf_X7_isMachine : GoodIn wsX7_machineOf wsX7_isMachine := goodIn_r _ [21, 22, 23, 24, 20, 25, 38, 39, 40, 41, 42, 43, 44, 45, 46, 47, 48, 49, 50, 51, 52, 53, 54, 55, 56, 57, 58, 59, 60, 61, 62, 63, 64, 65, 66, 67, 68, 69, 70, 71, 72, 73, 74, 75, 76, 77, 78] (by decide +kernel) (by decide +kernel)
set_option maxRecDepth 20000 in
theorem gX7_machineOf_X7_isMachine : GoodIn wsX7_machineOf (wsV RX7 138 RX7 yX7_isMachine wsX7_isMachine) := goodIn_app (goodIn_of _ (by decide +kernel)) ggX7_machineOf_X7_isMachine
set_option maxRecDepth 20000 in
theorem ggX7_machineOf_X7_headOf : GoodIn wsX7_machineOf wsX7_headOf := goodIn_r _ [29, 1, 38, 39, 40, 41, 42, 43, 44, 45, 46, 47, 48, 49, 50, 51, 52, 53, 54, 55, 56, 57, 58, 59, 60, 61, 62, 63, 64, 65, 66, 67, 68, 69, 70, 71, 72, 73, 74, 75, 76, 77, 78] (by decide +kernel) (by decide +kernel)
set_option maxRecDepth 20000 in
theorem gX7_machineOf_X7_headOf : GoodIn wsX7_machineOf (wsV RX7 204 RX7 yX7_headOf wsX7_headOf) := goodIn_app (goodIn_of _ (by decide +kernel)) ggX7_machineOf_X7_headOf
set_option maxRecDepth 20000 in
theorem ggX7_machineOf_X7_rank : GoodIn wsX7_machineOf wsX7_rank := goodIn_r _ [33, 1, 38, 39, 40, 41, 42, 43, 44, 45, 46, 47, 48, 49, 50, 51, 52, 53, 54, 55, 56, 57, 58, 59, 60, 61, 62, 63, 64, 65, 66, 67, 68, 69, 70, 71, 72, 73, 74, 75, 76, 77, 78] (by decide +kernel) (by decide +kernel)
set_option maxRecDepth 20000 in
theorem gX7_machineOf_X7_rank : GoodIn wsX7_machineOf (wsV RX7 145 RX7 yX7_rank wsX7_rank) := goodIn_app (goodIn_of _ (by decide +kernel)) ggX7_machineOf_X7_rank
set_option maxRecDepth 20000 in
theorem ggX7_machineOf_X7_isWhole : GoodIn wsX7_machineOf wsX7_isWhole := goodIn_r _ [37, 2, 3, 30, 31, 32, 20, 33, 1, 38, 39, 40, 41, 42, 43, 44, 45, 46, 47, 48, 49, 50, 51, 52, 53, 54, 55, 56, 57, 58, 59, 60, 61, 62, 63, 64, 65, 66, 67, 68, 69, 70, 71, 72, 73, 74, 75, 76, 77, 78] (by decide +kernel) (by decide +kernel)
set_option maxRecDepth 20000 in
theorem gX7_machineOf_X7_isWhole : GoodIn wsX7_machineOf (wsV RX7 178 RX7 yX7_isWhole wsX7_isWhole) := goodIn_app (goodIn_of _ (by decide +kernel)) ggX7_machineOf_X7_isWhole
theorem dX7_machineOf_0 : decode cX7_machineOf 0 = .ok (.aload_n 0, 1) := by decide +kernel
theorem dX7_machineOf_1 : decode cX7_machineOf 1 = .ok (.iload_n 1, 1) := by decide +kernel
theorem dX7_machineOf_2 : decode cX7_machineOf 2 = .ok (.invokevirtual 138, 3) := by decide +kernel
theorem dX7_machineOf_5 : decode cX7_machineOf 5 = .ok (.ifCond .ne 5, 3) := by decide +kernel
theorem dX7_machineOf_8 : decode cX7_machineOf 8 = .ok (.iconst (-1), 1) := by decide +kernel
theorem dX7_machineOf_9 : decode cX7_machineOf 9 = .ok (.ireturn, 1) := by decide +kernel
theorem dX7_machineOf_10 : decode cX7_machineOf 10 = .ok (.iload_n 2, 1) := by decide +kernel
theorem dX7_machineOf_11 : decode cX7_machineOf 11 = .ok (.bipush 100, 2) := by decide +kernel
theorem dX7_machineOf_13 : decode cX7_machineOf 13 = .ok (.if_icmp .lt 33, 3) := by decide +kernel
theorem dX7_machineOf_16 : decode cX7_machineOf 16 = .ok (.aload_n 0, 1) := by decide +kernel
theorem dX7_machineOf_17 : decode cX7_machineOf 17 = .ok (.iload_n 1, 1) := by decide +kernel
theorem dX7_machineOf_18 : decode cX7_machineOf 18 = .ok (.iload_n 2, 1) := by decide +kernel
theorem dX7_machineOf_19 : decode cX7_machineOf 19 = .ok (.bipush 100, 2) := by decide +kernel
theorem dX7_machineOf_21 : decode cX7_machineOf 21 = .ok (.isub, 1) := by decide +kernel
theorem dX7_machineOf_22 : decode cX7_machineOf 22 = .ok (.invokevirtual 204, 3) := by decide +kernel
theorem dX7_machineOf_25 : decode cX7_machineOf 25 = .ok (.istore_n 3, 1) := by decide +kernel
theorem dX7_machineOf_26 : decode cX7_machineOf 26 = .ok (.iload_n 3, 1) := by decide +kernel
theorem dX7_machineOf_27 : decode cX7_machineOf 27 = .ok (.ifCond .ge 7, 3) := by decide +kernel
theorem dX7_machineOf_30 : decode cX7_machineOf 30 = .ok (.iconst (-1), 1) := by decide +kernel
theorem dX7_machineOf_31 : decode cX7_machineOf 31 = .ok (.goto 14, 3) := by decide +kernel
theorem dX7_machineOf_34 : decode cX7_machineOf 34 = .ok (.aload_n 0, 1) := by decide +kernel
theorem dX7_machineOf_35 : decode cX7_machineOf 35 = .ok (.getfield 41, 3) := by decide +kernel
theorem dX7_machineOf_38 : decode cX7_machineOf 38 = .ok (.bipush 12, 2) := by decide +kernel
theorem dX7_machineOf_40 : decode cX7_machineOf 40 = .ok (.iload_n 1, 1) := by decide +kernel
theorem dX7_machineOf_41 : decode cX7_machineOf 41 = .ok (.imul, 1) := by decide +kernel
theorem dX7_machineOf_42 : decode cX7_machineOf 42 = .ok (.iload_n 3, 1) := by decide +kernel
theorem dX7_machineOf_43 : decode cX7_machineOf 43 = .ok (.iadd, 1) := by decide +kernel
theorem dX7_machineOf_44 : decode cX7_machineOf 44 = .ok (.iaload, 1) := by decide +kernel
theorem dX7_machineOf_45 : decode cX7_machineOf 45 = .ok (.ireturn, 1) := by decide +kernel
theorem dX7_machineOf_46 : decode cX7_machineOf 46 = .ok (.iload_n 2, 1) := by decide +kernel
theorem dX7_machineOf_47 : decode cX7_machineOf 47 = .ok (.tableswitch 206 0 16 #[81, 88, 95, 101, 115, 122, 129, 136, 143, 150, 157, 164, 171, 178, 185, 192, 199], 81) := by decide +kernel
theorem dX7_machineOf_128 : decode cX7_machineOf 128 = .ok (.aload_n 0, 1) := by decide +kernel
theorem dX7_machineOf_129 : decode cX7_machineOf 129 = .ok (.getfield 32, 3) := by decide +kernel
theorem dX7_machineOf_132 : decode cX7_machineOf 132 = .ok (.iload_n 1, 1) := by decide +kernel
theorem dX7_machineOf_133 : decode cX7_machineOf 133 = .ok (.iaload, 1) := by decide +kernel
theorem dX7_machineOf_134 : decode cX7_machineOf 134 = .ok (.ireturn, 1) := by decide +kernel
theorem dX7_machineOf_135 : decode cX7_machineOf 135 = .ok (.aload_n 0, 1) := by decide +kernel
theorem dX7_machineOf_136 : decode cX7_machineOf 136 = .ok (.getfield 35, 3) := by decide +kernel
theorem dX7_machineOf_139 : decode cX7_machineOf 139 = .ok (.iload_n 1, 1) := by decide +kernel
theorem dX7_machineOf_140 : decode cX7_machineOf 140 = .ok (.iaload, 1) := by decide +kernel
theorem dX7_machineOf_141 : decode cX7_machineOf 141 = .ok (.ireturn, 1) := by decide +kernel
theorem dX7_machineOf_142 : decode cX7_machineOf 142 = .ok (.aload_n 0, 1) := by decide +kernel
theorem dX7_machineOf_143 : decode cX7_machineOf 143 = .ok (.iload_n 1, 1) := by decide +kernel
theorem dX7_machineOf_144 : decode cX7_machineOf 144 = .ok (.invokevirtual 145, 3) := by decide +kernel
theorem dX7_machineOf_147 : decode cX7_machineOf 147 = .ok (.ireturn, 1) := by decide +kernel
theorem dX7_machineOf_148 : decode cX7_machineOf 148 = .ok (.aload_n 0, 1) := by decide +kernel
theorem dX7_machineOf_149 : decode cX7_machineOf 149 = .ok (.iload_n 1, 1) := by decide +kernel
theorem dX7_machineOf_150 : decode cX7_machineOf 150 = .ok (.invokevirtual 178, 3) := by decide +kernel
theorem dX7_machineOf_153 : decode cX7_machineOf 153 = .ok (.ifCond .eq 7, 3) := by decide +kernel
theorem dX7_machineOf_156 : decode cX7_machineOf 156 = .ok (.iconst 1, 1) := by decide +kernel
theorem dX7_machineOf_157 : decode cX7_machineOf 157 = .ok (.goto 4, 3) := by decide +kernel
theorem dX7_machineOf_160 : decode cX7_machineOf 160 = .ok (.iconst 0, 1) := by decide +kernel
theorem dX7_machineOf_161 : decode cX7_machineOf 161 = .ok (.ireturn, 1) := by decide +kernel
theorem dX7_machineOf_162 : decode cX7_machineOf 162 = .ok (.aload_n 0, 1) := by decide +kernel
theorem dX7_machineOf_163 : decode cX7_machineOf 163 = .ok (.getfield 47, 3) := by decide +kernel
theorem dX7_machineOf_166 : decode cX7_machineOf 166 = .ok (.iload_n 1, 1) := by decide +kernel
theorem dX7_machineOf_167 : decode cX7_machineOf 167 = .ok (.iaload, 1) := by decide +kernel
theorem dX7_machineOf_168 : decode cX7_machineOf 168 = .ok (.ireturn, 1) := by decide +kernel
theorem dX7_machineOf_169 : decode cX7_machineOf 169 = .ok (.aload_n 0, 1) := by decide +kernel
theorem dX7_machineOf_170 : decode cX7_machineOf 170 = .ok (.getfield 50, 3) := by decide +kernel
theorem dX7_machineOf_173 : decode cX7_machineOf 173 = .ok (.iload_n 1, 1) := by decide +kernel
theorem dX7_machineOf_174 : decode cX7_machineOf 174 = .ok (.iaload, 1) := by decide +kernel
theorem dX7_machineOf_175 : decode cX7_machineOf 175 = .ok (.ireturn, 1) := by decide +kernel
theorem dX7_machineOf_176 : decode cX7_machineOf 176 = .ok (.aload_n 0, 1) := by decide +kernel
theorem dX7_machineOf_177 : decode cX7_machineOf 177 = .ok (.getfield 53, 3) := by decide +kernel
theorem dX7_machineOf_180 : decode cX7_machineOf 180 = .ok (.iload_n 1, 1) := by decide +kernel
theorem dX7_machineOf_181 : decode cX7_machineOf 181 = .ok (.iaload, 1) := by decide +kernel
theorem dX7_machineOf_182 : decode cX7_machineOf 182 = .ok (.ireturn, 1) := by decide +kernel
theorem dX7_machineOf_183 : decode cX7_machineOf 183 = .ok (.aload_n 0, 1) := by decide +kernel
theorem dX7_machineOf_184 : decode cX7_machineOf 184 = .ok (.getfield 56, 3) := by decide +kernel
theorem dX7_machineOf_187 : decode cX7_machineOf 187 = .ok (.iload_n 1, 1) := by decide +kernel
theorem dX7_machineOf_188 : decode cX7_machineOf 188 = .ok (.iaload, 1) := by decide +kernel
theorem dX7_machineOf_189 : decode cX7_machineOf 189 = .ok (.ireturn, 1) := by decide +kernel
theorem dX7_machineOf_190 : decode cX7_machineOf 190 = .ok (.aload_n 0, 1) := by decide +kernel
theorem dX7_machineOf_191 : decode cX7_machineOf 191 = .ok (.getfield 59, 3) := by decide +kernel
theorem dX7_machineOf_194 : decode cX7_machineOf 194 = .ok (.iload_n 1, 1) := by decide +kernel
theorem dX7_machineOf_195 : decode cX7_machineOf 195 = .ok (.iaload, 1) := by decide +kernel
theorem dX7_machineOf_196 : decode cX7_machineOf 196 = .ok (.ireturn, 1) := by decide +kernel
theorem dX7_machineOf_197 : decode cX7_machineOf 197 = .ok (.aload_n 0, 1) := by decide +kernel
theorem dX7_machineOf_198 : decode cX7_machineOf 198 = .ok (.getfield 62, 3) := by decide +kernel
theorem dX7_machineOf_201 : decode cX7_machineOf 201 = .ok (.iload_n 1, 1) := by decide +kernel
theorem dX7_machineOf_202 : decode cX7_machineOf 202 = .ok (.iaload, 1) := by decide +kernel
theorem dX7_machineOf_203 : decode cX7_machineOf 203 = .ok (.ireturn, 1) := by decide +kernel
theorem dX7_machineOf_204 : decode cX7_machineOf 204 = .ok (.aload_n 0, 1) := by decide +kernel
theorem dX7_machineOf_205 : decode cX7_machineOf 205 = .ok (.getfield 65, 3) := by decide +kernel
theorem dX7_machineOf_208 : decode cX7_machineOf 208 = .ok (.iload_n 1, 1) := by decide +kernel
theorem dX7_machineOf_209 : decode cX7_machineOf 209 = .ok (.iaload, 1) := by decide +kernel
theorem dX7_machineOf_210 : decode cX7_machineOf 210 = .ok (.ireturn, 1) := by decide +kernel
theorem dX7_machineOf_211 : decode cX7_machineOf 211 = .ok (.aload_n 0, 1) := by decide +kernel
theorem dX7_machineOf_212 : decode cX7_machineOf 212 = .ok (.getfield 68, 3) := by decide +kernel
theorem dX7_machineOf_215 : decode cX7_machineOf 215 = .ok (.iload_n 1, 1) := by decide +kernel
theorem dX7_machineOf_216 : decode cX7_machineOf 216 = .ok (.iaload, 1) := by decide +kernel
theorem dX7_machineOf_217 : decode cX7_machineOf 217 = .ok (.ireturn, 1) := by decide +kernel
theorem dX7_machineOf_218 : decode cX7_machineOf 218 = .ok (.aload_n 0, 1) := by decide +kernel
theorem dX7_machineOf_219 : decode cX7_machineOf 219 = .ok (.getfield 71, 3) := by decide +kernel
theorem dX7_machineOf_222 : decode cX7_machineOf 222 = .ok (.iload_n 1, 1) := by decide +kernel
theorem dX7_machineOf_223 : decode cX7_machineOf 223 = .ok (.iaload, 1) := by decide +kernel
theorem dX7_machineOf_224 : decode cX7_machineOf 224 = .ok (.ireturn, 1) := by decide +kernel
theorem dX7_machineOf_225 : decode cX7_machineOf 225 = .ok (.aload_n 0, 1) := by decide +kernel
theorem dX7_machineOf_226 : decode cX7_machineOf 226 = .ok (.getfield 74, 3) := by decide +kernel
theorem dX7_machineOf_229 : decode cX7_machineOf 229 = .ok (.iload_n 1, 1) := by decide +kernel
theorem dX7_machineOf_230 : decode cX7_machineOf 230 = .ok (.iaload, 1) := by decide +kernel
theorem dX7_machineOf_231 : decode cX7_machineOf 231 = .ok (.ireturn, 1) := by decide +kernel
theorem dX7_machineOf_232 : decode cX7_machineOf 232 = .ok (.aload_n 0, 1) := by decide +kernel
theorem dX7_machineOf_233 : decode cX7_machineOf 233 = .ok (.getfield 77, 3) := by decide +kernel
theorem dX7_machineOf_236 : decode cX7_machineOf 236 = .ok (.iload_n 1, 1) := by decide +kernel
theorem dX7_machineOf_237 : decode cX7_machineOf 237 = .ok (.iaload, 1) := by decide +kernel
theorem dX7_machineOf_238 : decode cX7_machineOf 238 = .ok (.ireturn, 1) := by decide +kernel
theorem dX7_machineOf_239 : decode cX7_machineOf 239 = .ok (.aload_n 0, 1) := by decide +kernel
theorem dX7_machineOf_240 : decode cX7_machineOf 240 = .ok (.getfield 80, 3) := by decide +kernel
theorem dX7_machineOf_243 : decode cX7_machineOf 243 = .ok (.iload_n 1, 1) := by decide +kernel
theorem dX7_machineOf_244 : decode cX7_machineOf 244 = .ok (.iaload, 1) := by decide +kernel
theorem dX7_machineOf_245 : decode cX7_machineOf 245 = .ok (.ireturn, 1) := by decide +kernel
theorem dX7_machineOf_246 : decode cX7_machineOf 246 = .ok (.aload_n 0, 1) := by decide +kernel
theorem dX7_machineOf_247 : decode cX7_machineOf 247 = .ok (.getfield 83, 3) := by decide +kernel
theorem dX7_machineOf_250 : decode cX7_machineOf 250 = .ok (.iload_n 1, 1) := by decide +kernel
theorem dX7_machineOf_251 : decode cX7_machineOf 251 = .ok (.iaload, 1) := by decide +kernel
theorem dX7_machineOf_252 : decode cX7_machineOf 252 = .ok (.ireturn, 1) := by decide +kernel
theorem dX7_machineOf_253 : decode cX7_machineOf 253 = .ok (.iconst (-1), 1) := by decide +kernel
theorem dX7_machineOf_254 : decode cX7_machineOf 254 = .ok (.ireturn, 1) := by decide +kernel
set_option maxRecDepth 20000 in
theorem ggX7_data_X7_isMachine : GoodIn wsX7_data wsX7_isMachine := goodIn_r _ [6, 7, 8, 9, 5, 10, 16, 17, 18, 19, 20, 21, 22, 23, 24, 25, 26, 27, 28, 29, 30, 31, 32, 33, 34, 35, 36, 37, 38, 39, 40, 41, 42, 43, 44, 45, 46, 47, 48, 49, 50, 51, 52, 53, 54, 55, 56] (by decide +kernel) (by decide +kernel)
set_option maxRecDepth 20000 in
theorem gX7_data_X7_isMachine : GoodIn wsX7_data (wsV RX7 138 RX7 yX7_isMachine wsX7_isMachine) := goodIn_app (goodIn_of _ (by decide +kernel)) ggX7_data_X7_isMachine
set_option maxRecDepth 20000 in
theorem ggX7_data_X7_headOf : GoodIn wsX7_data wsX7_headOf := goodIn_r _ [14, 15, 16, 17, 18, 19, 20, 21, 22, 23, 24, 25, 26, 27, 28, 29, 30, 31, 32, 33, 34, 35, 36, 37, 38, 39, 40, 41, 42, 43, 44, 45, 46, 47, 48, 49, 50, 51, 52, 53, 54, 55, 56] (by decide +kernel) (by decide +kernel)
set_option maxRecDepth 20000 in
theorem gX7_data_X7_headOf : GoodIn wsX7_data (wsV RX7 204 RX7 yX7_headOf wsX7_headOf) := goodIn_app (goodIn_of _ (by decide +kernel)) ggX7_data_X7_headOf
theorem dX7_data_0 : decode cX7_data 0 = .ok (.aload_n 0, 1) := by decide +kernel
theorem dX7_data_1 : decode cX7_data 1 = .ok (.iload_n 1, 1) := by decide +kernel
theorem dX7_data_2 : decode cX7_data 2 = .ok (.invokevirtual 138, 3) := by decide +kernel
theorem dX7_data_5 : decode cX7_data 5 = .ok (.ifCond .eq 12, 3) := by decide +kernel
theorem dX7_data_8 : decode cX7_data 8 = .ok (.aload_n 0, 1) := by decide +kernel
theorem dX7_data_9 : decode cX7_data 9 = .ok (.iload_n 1, 1) := by decide +kernel
theorem dX7_data_10 : decode cX7_data 10 = .ok (.iload_n 2, 1) := by decide +kernel
theorem dX7_data_11 : decode cX7_data 11 = .ok (.invokevirtual 204, 3) := by decide +kernel
theorem dX7_data_14 : decode cX7_data 14 = .ok (.goto 4, 3) := by decide +kernel
theorem dX7_data_17 : decode cX7_data 17 = .ok (.iconst (-1), 1) := by decide +kernel
theorem dX7_data_18 : decode cX7_data 18 = .ok (.istore_n 3, 1) := by decide +kernel
theorem dX7_data_19 : decode cX7_data 19 = .ok (.iload_n 3, 1) := by decide +kernel
theorem dX7_data_20 : decode cX7_data 20 = .ok (.ifCond .ge 7, 3) := by decide +kernel
theorem dX7_data_23 : decode cX7_data 23 = .ok (.iconst 0, 1) := by decide +kernel
theorem dX7_data_24 : decode cX7_data 24 = .ok (.goto 14, 3) := by decide +kernel
theorem dX7_data_27 : decode cX7_data 27 = .ok (.aload_n 0, 1) := by decide +kernel
theorem dX7_data_28 : decode cX7_data 28 = .ok (.getfield 44, 3) := by decide +kernel
theorem dX7_data_31 : decode cX7_data 31 = .ok (.bipush 12, 2) := by decide +kernel
theorem dX7_data_33 : decode cX7_data 33 = .ok (.iload_n 1, 1) := by decide +kernel
theorem dX7_data_34 : decode cX7_data 34 = .ok (.imul, 1) := by decide +kernel
theorem dX7_data_35 : decode cX7_data 35 = .ok (.iload_n 3, 1) := by decide +kernel
theorem dX7_data_36 : decode cX7_data 36 = .ok (.iadd, 1) := by decide +kernel
theorem dX7_data_37 : decode cX7_data 37 = .ok (.iaload, 1) := by decide +kernel
theorem dX7_data_38 : decode cX7_data 38 = .ok (.ireturn, 1) := by decide +kernel
set_option maxRecDepth 20000 in
theorem ggX7_sum_X7_isMachine : GoodIn wsX7_sum wsX7_isMachine := goodIn_r _ [6, 7, 8, 9, 5, 10, 11, 12, 13, 14, 15, 16, 17, 18, 19, 20, 21, 22, 23, 24, 25, 26, 27, 28, 29, 30, 31, 32, 33, 34, 35, 36, 37, 38, 39, 40, 41, 42, 43, 44, 45, 46, 47, 48, 49, 50, 51] (by decide +kernel) (by decide +kernel)
set_option maxRecDepth 20000 in
theorem gX7_sum_X7_isMachine : GoodIn wsX7_sum (wsV RX7 138 RX7 yX7_isMachine wsX7_isMachine) := goodIn_app (goodIn_of _ (by decide +kernel)) ggX7_sum_X7_isMachine
theorem dX7_sum_0 : decode cX7_sum 0 = .ok (.aload_n 0, 1) := by decide +kernel
theorem dX7_sum_1 : decode cX7_sum 1 = .ok (.iload_n 1, 1) := by decide +kernel
theorem dX7_sum_2 : decode cX7_sum 2 = .ok (.invokevirtual 138, 3) := by decide +kernel
theorem dX7_sum_5 : decode cX7_sum 5 = .ok (.ifCond .eq 12, 3) := by decide +kernel
theorem dX7_sum_8 : decode cX7_sum 8 = .ok (.aload_n 0, 1) := by decide +kernel
theorem dX7_sum_9 : decode cX7_sum 9 = .ok (.getfield 38, 3) := by decide +kernel
theorem dX7_sum_12 : decode cX7_sum 12 = .ok (.iload_n 1, 1) := by decide +kernel
theorem dX7_sum_13 : decode cX7_sum 13 = .ok (.iaload, 1) := by decide +kernel
theorem dX7_sum_14 : decode cX7_sum 14 = .ok (.goto 4, 3) := by decide +kernel
theorem dX7_sum_17 : decode cX7_sum 17 = .ok (.iconst 0, 1) := by decide +kernel
theorem dX7_sum_18 : decode cX7_sum 18 = .ok (.ireturn, 1) := by decide +kernel
set_option maxRecDepth 20000 in
theorem ggX7_about_X7_greatestKept : GoodIn wsX7_about wsX7_greatestKept := goodIn_r _ [12, 1, 13, 14, 15, 16, 17, 18, 19, 20, 21, 22, 23, 24, 25, 26, 27, 28, 29, 30, 31, 32, 33, 34, 35, 36, 37, 38, 39, 40, 41, 42, 43, 44, 45, 46, 47, 48, 49, 50, 51, 52, 53, 54] (by decide +kernel) (by decide +kernel)
set_option maxRecDepth 20000 in
theorem gX7_about_X7_greatestKept : GoodIn wsX7_about (wsV RX7 181 RX7 yX7_greatestKept wsX7_greatestKept) := goodIn_app (goodIn_of _ (by decide +kernel)) ggX7_about_X7_greatestKept
theorem dX7_about_0 : decode cX7_about 0 = .ok (.aload_n 0, 1) := by decide +kernel
theorem dX7_about_1 : decode cX7_about 1 = .ok (.invokevirtual 181, 3) := by decide +kernel
theorem dX7_about_4 : decode cX7_about 4 = .ok (.istore_n 2, 1) := by decide +kernel
theorem dX7_about_5 : decode cX7_about 5 = .ok (.iconst 0, 1) := by decide +kernel
theorem dX7_about_6 : decode cX7_about 6 = .ok (.istore_n 3, 1) := by decide +kernel
theorem dX7_about_7 : decode cX7_about 7 = .ok (.iconst 0, 1) := by decide +kernel
theorem dX7_about_8 : decode cX7_about 8 = .ok (.istore 4, 2) := by decide +kernel
theorem dX7_about_10 : decode cX7_about 10 = .ok (.iload 4, 2) := by decide +kernel
theorem dX7_about_12 : decode cX7_about 12 = .ok (.aload_n 0, 1) := by decide +kernel
theorem dX7_about_13 : decode cX7_about 13 = .ok (.getfield 119, 3) := by decide +kernel
theorem dX7_about_16 : decode cX7_about 16 = .ok (.if_icmp .ge 32, 3) := by decide +kernel
theorem dX7_about_19 : decode cX7_about 19 = .ok (.iload_n 3, 1) := by decide +kernel
theorem dX7_about_20 : decode cX7_about 20 = .ok (.iload_n 2, 1) := by decide +kernel
theorem dX7_about_21 : decode cX7_about 21 = .ok (.ifCond .le 18, 3) := by decide +kernel
theorem dX7_about_24 : decode cX7_about 24 = .ok (.aload_n 0, 1) := by decide +kernel
theorem dX7_about_25 : decode cX7_about 25 = .ok (.getfield 47, 3) := by decide +kernel
theorem dX7_about_28 : decode cX7_about 28 = .ok (.iload 4, 2) := by decide +kernel
theorem dX7_about_30 : decode cX7_about 30 = .ok (.iaload, 1) := by decide +kernel
theorem dX7_about_31 : decode cX7_about 31 = .ok (.iload_n 2, 1) := by decide +kernel
theorem dX7_about_32 : decode cX7_about 32 = .ok (.if_icmp .ne 7, 3) := by decide +kernel
theorem dX7_about_35 : decode cX7_about 35 = .ok (.iconst 1, 1) := by decide +kernel
theorem dX7_about_36 : decode cX7_about 36 = .ok (.goto 4, 3) := by decide +kernel
theorem dX7_about_39 : decode cX7_about 39 = .ok (.iconst 0, 1) := by decide +kernel
theorem dX7_about_40 : decode cX7_about 40 = .ok (.iadd, 1) := by decide +kernel
theorem dX7_about_41 : decode cX7_about 41 = .ok (.istore_n 3, 1) := by decide +kernel
theorem dX7_about_42 : decode cX7_about 42 = .ok (.iinc 4 1, 3) := by decide +kernel
theorem dX7_about_45 : decode cX7_about 45 = .ok (.goto (-35), 3) := by decide +kernel
theorem dX7_about_48 : decode cX7_about 48 = .ok (.iload_n 1, 1) := by decide +kernel
theorem dX7_about_49 : decode cX7_about 49 = .ok (.tableswitch 78 0 5 #[39, 44, 49, 54, 56, 61], 39) := by decide +kernel
theorem dX7_about_88 : decode cX7_about 88 = .ok (.aload_n 0, 1) := by decide +kernel
theorem dX7_about_89 : decode cX7_about 89 = .ok (.getfield 119, 3) := by decide +kernel
theorem dX7_about_92 : decode cX7_about 92 = .ok (.ireturn, 1) := by decide +kernel
theorem dX7_about_93 : decode cX7_about 93 = .ok (.aload_n 0, 1) := by decide +kernel
theorem dX7_about_94 : decode cX7_about 94 = .ok (.getfield 131, 3) := by decide +kernel
theorem dX7_about_97 : decode cX7_about 97 = .ok (.ireturn, 1) := by decide +kernel
theorem dX7_about_98 : decode cX7_about 98 = .ok (.aload_n 0, 1) := by decide +kernel
theorem dX7_about_99 : decode cX7_about 99 = .ok (.getfield 166, 3) := by decide +kernel
theorem dX7_about_102 : decode cX7_about 102 = .ok (.ireturn, 1) := by decide +kernel
theorem dX7_about_103 : decode cX7_about 103 = .ok (.iload_n 3, 1) := by decide +kernel
theorem dX7_about_104 : decode cX7_about 104 = .ok (.ireturn, 1) := by decide +kernel
theorem dX7_about_105 : decode cX7_about 105 = .ok (.aload_n 0, 1) := by decide +kernel
theorem dX7_about_106 : decode cX7_about 106 = .ok (.getfield 142, 3) := by decide +kernel
theorem dX7_about_109 : decode cX7_about 109 = .ok (.ireturn, 1) := by decide +kernel
theorem dX7_about_110 : decode cX7_about 110 = .ok (.iload_n 2, 1) := by decide +kernel
theorem dX7_about_111 : decode cX7_about 111 = .ok (.aload_n 0, 1) := by decide +kernel
theorem dX7_about_112 : decode cX7_about 112 = .ok (.getfield 185, 3) := by decide +kernel
theorem dX7_about_115 : decode cX7_about 115 = .ok (.if_icmp .ne 10, 3) := by decide +kernel
theorem dX7_about_118 : decode cX7_about 118 = .ok (.aload_n 0, 1) := by decide +kernel
theorem dX7_about_119 : decode cX7_about 119 = .ok (.getfield 86, 3) := by decide +kernel
theorem dX7_about_122 : decode cX7_about 122 = .ok (.goto 4, 3) := by decide +kernel
theorem dX7_about_125 : decode cX7_about 125 = .ok (.iconst (-1), 1) := by decide +kernel
theorem dX7_about_126 : decode cX7_about 126 = .ok (.ireturn, 1) := by decide +kernel
theorem dX7_about_127 : decode cX7_about 127 = .ok (.iconst (-1), 1) := by decide +kernel
theorem dX7_about_128 : decode cX7_about 128 = .ok (.ireturn, 1) := by decide +kernel
theorem dJ9_min_7cf53_0 : decode cJ9_min_7cf53 0 = .ok (.iload_n 0, 1) := by decide +kernel
theorem dJ9_min_7cf53_1 : decode cJ9_min_7cf53 1 = .ok (.iload_n 1, 1) := by decide +kernel
theorem dJ9_min_7cf53_2 : decode cJ9_min_7cf53 2 = .ok (.if_icmp .gt 7, 3) := by decide +kernel
theorem dJ9_min_7cf53_5 : decode cJ9_min_7cf53 5 = .ok (.iload_n 0, 1) := by decide +kernel
theorem dJ9_min_7cf53_6 : decode cJ9_min_7cf53 6 = .ok (.goto 4, 3) := by decide +kernel
theorem dJ9_min_7cf53_9 : decode cJ9_min_7cf53 9 = .ok (.iload_n 1, 1) := by decide +kernel
theorem dJ9_min_7cf53_10 : decode cJ9_min_7cf53 10 = .ok (.ireturn, 1) := by decide +kernel
theorem dJ7_fill_53178_0 : decode cJ7_fill_53178 0 = .ok (.iconst 0, 1) := by decide +kernel
theorem dJ7_fill_53178_1 : decode cJ7_fill_53178 1 = .ok (.istore_n 2, 1) := by decide +kernel
theorem dJ7_fill_53178_2 : decode cJ7_fill_53178 2 = .ok (.aload_n 0, 1) := by decide +kernel
theorem dJ7_fill_53178_3 : decode cJ7_fill_53178 3 = .ok (.arraylength, 1) := by decide +kernel
theorem dJ7_fill_53178_4 : decode cJ7_fill_53178 4 = .ok (.istore_n 3, 1) := by decide +kernel
theorem dJ7_fill_53178_5 : decode cJ7_fill_53178 5 = .ok (.iload_n 2, 1) := by decide +kernel
theorem dJ7_fill_53178_6 : decode cJ7_fill_53178 6 = .ok (.iload_n 3, 1) := by decide +kernel
theorem dJ7_fill_53178_7 : decode cJ7_fill_53178 7 = .ok (.if_icmp .ge 13, 3) := by decide +kernel
theorem dJ7_fill_53178_10 : decode cJ7_fill_53178 10 = .ok (.aload_n 0, 1) := by decide +kernel
theorem dJ7_fill_53178_11 : decode cJ7_fill_53178 11 = .ok (.iload_n 2, 1) := by decide +kernel
theorem dJ7_fill_53178_12 : decode cJ7_fill_53178 12 = .ok (.iload_n 1, 1) := by decide +kernel
theorem dJ7_fill_53178_13 : decode cJ7_fill_53178 13 = .ok (.iastore, 1) := by decide +kernel
theorem dJ7_fill_53178_14 : decode cJ7_fill_53178 14 = .ok (.iinc 2 1, 3) := by decide +kernel
theorem dJ7_fill_53178_17 : decode cJ7_fill_53178 17 = .ok (.goto (-12), 3) := by decide +kernel
theorem dJ7_fill_53178_20 : decode cJ7_fill_53178 20 = .ok (.return_, 1) := by decide +kernel
set_option maxRecDepth 20000 in
theorem ggL_law_X6_init : GoodIn wsL_law wsX6_init := goodIn_r _ [8, 9, 10, 11, 12, 13, 14, 15, 16, 17, 18, 19, 20, 21, 22, 23, 24, 25, 26, 27, 28, 29, 30, 31, 32, 33, 34, 35, 36, 37, 38, 39, 40, 562, 511, 512, 513, 514, 515, 516, 517, 518, 519, 520, 563, 564, 565, 566] (by decide +kernel) (by decide +kernel)
set_option maxRecDepth 20000 in
theorem gL_law_X6_init : GoodIn wsL_law (wsX6_init) := ggL_law_X6_init
set_option maxRecDepth 20000 in
theorem ggL_law_X7_init : GoodIn wsL_law wsX7_init := goodIn_r _ [43, 44, 10, 11, 45, 46, 47, 48, 49, 22, 50, 51, 52, 53, 54, 55, 56, 57, 58, 59, 60, 61, 62, 63, 64, 65, 66, 67, 68, 69, 70, 71, 72, 73, 74, 75, 76, 77, 78, 79, 80, 521, 522, 523, 524, 525, 526, 527, 528, 529, 530, 531, 532, 533, 534, 535, 536, 537, 538, 539, 540, 541, 542, 543, 544, 545, 546, 547, 548, 549, 550, 551, 552, 553, 554, 555, 556, 557, 558, 559, 560, 561] (by decide +kernel) (by decide +kernel)
set_option maxRecDepth 20000 in
theorem gL_law_X7_init : GoodIn wsL_law (wsX7_init) := ggL_law_X7_init
set_option maxRecDepth 20000 in
theorem ggL_law_X6_seed : GoodIn wsL_law wsX6_seed := goodIn_r _ [84, 15, 511, 512, 513, 514, 515, 516, 517, 518, 519, 520, 562] (by decide +kernel) (by decide +kernel)
set_option maxRecDepth 20000 in
theorem gL_law_X6_seed : GoodIn wsL_law (wsV RL 13 RX6 yX6_seed wsX6_seed) := goodIn_app (goodIn_of _ (by decide +kernel)) ggL_law_X6_seed
set_option maxRecDepth 20000 in
theorem ggL_law_X7_seed : GoodIn wsL_law wsX7_seed := goodIn_r _ [88, 45, 521, 522, 523, 524, 525, 526, 527, 528, 529, 530, 531, 532, 533, 534, 535, 536, 537, 538, 539, 540, 541, 542, 543, 544, 545, 546, 547, 548, 549, 550, 551, 552, 553, 554, 555, 556, 557, 558, 559, 560, 561] (by decide +kernel) (by decide +kernel)
set_option maxRecDepth 20000 in
theorem gL_law_X7_seed : GoodIn wsL_law (wsV RL 17 RX7 yX7_seed wsX7_seed) := goodIn_app (goodIn_of _ (by decide +kernel)) ggL_law_X7_seed
set_option maxRecDepth 20000 in
theorem ggL_law_X6_rules : GoodIn wsL_law wsX6_rules := goodIn_r _ [92, 93, 19, 94, 95, 2, 96, 511, 512, 513, 514, 515, 516, 517, 518, 519, 520, 563, 564, 565, 566] (by decide +kernel) (by decide +kernel)
set_option maxRecDepth 20000 in
theorem gL_law_X6_rules : GoodIn wsL_law (wsV RL 18 RX6 yX6_rules wsX6_rules) := goodIn_app (goodIn_of _ (by decide +kernel)) ggL_law_X6_rules
set_option maxRecDepth 20000 in
theorem ggL_law_X7_rules : GoodIn wsL_law wsX7_rules := goodIn_r _ [100, 101, 46, 47, 48, 49, 102, 103, 5, 104, 521, 522, 523, 524, 525, 526, 527, 528, 529, 530, 531, 532, 533, 534, 535, 536, 537, 538, 539, 540, 541, 542, 543, 544, 545, 546, 547, 548, 549, 550, 551, 552, 553, 554, 555, 556, 557, 558, 559, 560, 561] (by decide +kernel) (by decide +kernel)
set_option maxRecDepth 20000 in
theorem gL_law_X7_rules : GoodIn wsL_law (wsV RL 22 RX7 yX7_rules wsX7_rules) := goodIn_app (goodIn_of _ (by decide +kernel)) ggL_law_X7_rules
set_option maxRecDepth 20000 in
theorem ggL_law_X6_machine : GoodIn wsL_law wsX6_machine := goodIn_r _ [108, 93, 21, 20, 109, 110, 19, 15, 111, 112, 113, 114, 115, 10, 11, 116, 117, 118, 119, 120, 121, 122, 123, 124, 125, 126, 127, 128, 129, 130, 131, 132, 133, 22, 134, 135, 136, 137, 138, 139, 140, 141, 142, 143, 144, 145, 146, 147, 148, 149, 150, 151, 152, 14, 153, 29, 154, 511, 512, 513, 514, 515, 516, 517, 518, 519, 520, 567, 568, 569, 570, 571, 572, 573, 574, 575, 576, 577, 578, 579, 580, 581, 582, 583, 584, 563, 564, 565, 566, 585, 586, 587, 588, 589, 590, 591, 592, 593, 594, 595, 596, 597, 598, 599, 600, 562] (by decide +kernel) (by decide +kernel)
set_option maxRecDepth 20000 in
theorem gL_law_X6_machine : GoodIn wsL_law (wsV RL 23 RX6 yX6_machine wsX6_machine) := goodIn_app (goodIn_of _ (by decide +kernel)) ggL_law_X6_machine
set_option maxRecDepth 20000 in
theorem ggL_law_X7_machine : GoodIn wsL_law wsX7_machine := goodIn_r _ [158, 101, 58, 47, 62, 159, 160, 161, 162, 5, 163, 59, 61, 60, 164, 165, 166, 167, 45, 168, 521, 522, 523, 524, 525, 526, 527, 528, 529, 530, 531, 532, 533, 534, 535, 536, 537, 538, 539, 540, 541, 542, 543, 544, 545, 546, 547, 548, 549, 550, 551, 552, 553, 554, 555, 556, 557, 558, 559, 560, 561] (by decide +kernel) (by decide +kernel)
set_option maxRecDepth 20000 in
theorem gL_law_X7_machine : GoodIn wsL_law (wsV RL 27 RX7 yX7_machine wsX7_machine) := goodIn_app (goodIn_of _ (by decide +kernel)) ggL_law_X7_machine
set_option maxRecDepth 20000 in
theorem ggL_law_X6_hears : GoodIn wsL_law wsX6_hears := goodIn_r _ [172, 23, 173, 174, 175, 2, 176, 93, 21, 94, 95, 96, 177, 178, 179, 180, 511, 512, 513, 514, 515, 516, 517, 518, 519, 520] (by decide +kernel) (by decide +kernel)
set_option maxRecDepth 20000 in
theorem gL_law_X6_hears : GoodIn wsL_law (wsV RL 28 RX6 yX6_hears wsX6_hears) := goodIn_app (goodIn_of _ (by decide +kernel)) ggL_law_X6_hears
set_option maxRecDepth 20000 in
theorem ggL_law_X7_hears : GoodIn wsL_law wsX7_hears := goodIn_r _ [184, 51, 185, 186, 187, 5, 188, 101, 102, 103, 104, 521, 522, 523, 524, 525, 526, 527, 528, 529, 530, 531, 532, 533, 534, 535, 536, 537, 538, 539, 540, 541, 542, 543, 544, 545, 546, 547, 548, 549, 550, 551, 552, 553, 554, 555, 556, 557, 558, 559, 560, 561] (by decide +kernel) (by decide +kernel)
set_option maxRecDepth 20000 in
theorem gL_law_X7_hears : GoodIn wsL_law (wsV RL 32 RX7 yX7_hears wsX7_hears) := goodIn_app (goodIn_of _ (by decide +kernel)) ggL_law_X7_hears
set_option maxRecDepth 20000 in
theorem ggL_law_X6_piece : GoodIn wsL_law wsX6_piece := goodIn_r _ [192, 193, 24, 511, 512, 513, 514, 515, 516, 517, 518, 519, 520] (by decide +kernel) (by decide +kernel)
set_option maxRecDepth 20000 in
theorem gL_law_X6_piece : GoodIn wsL_law (wsV RL 33 RX6 yX6_piece wsX6_piece) := goodIn_app (goodIn_of _ (by decide +kernel)) ggL_law_X6_piece
set_option maxRecDepth 20000 in
theorem ggL_law_X7_piece : GoodIn wsL_law wsX7_piece := goodIn_r _ [197, 198, 50, 521, 522, 523, 524, 525, 526, 527, 528, 529, 530, 531, 532, 533, 534, 535, 536, 537, 538, 539, 540, 541, 542, 543, 544, 545, 546, 547, 548, 549, 550, 551, 552, 553, 554, 555, 556, 557, 558, 559, 560, 561] (by decide +kernel) (by decide +kernel)
set_option maxRecDepth 20000 in
theorem gL_law_X7_piece : GoodIn wsL_law (wsV RL 37 RX7 yX7_piece wsX7_piece) := goodIn_app (goodIn_of _ (by decide +kernel)) ggL_law_X7_piece
set_option maxRecDepth 20000 in
theorem ggL_law_X6_load : GoodIn wsL_law wsX6_load := goodIn_r _ [202, 193, 24, 111, 203, 25, 173, 174, 175, 2, 176, 93, 21, 94, 95, 96, 204, 205, 206, 110, 207, 119, 208, 209, 210, 211, 212, 213, 214, 215, 216, 217, 118, 218, 134, 135, 219, 220, 38, 39, 40, 221, 222, 223, 224, 225, 226, 227, 228, 229, 230, 231, 232, 233, 234, 235, 236, 237, 238, 123, 129, 130, 239, 143, 144, 122, 145, 146, 147, 148, 149, 150, 151, 152, 14, 153, 29, 154, 511, 512, 513, 514, 515, 516, 517, 518, 519, 520, 567, 568, 569, 570, 571, 572, 573, 574, 575, 576, 577, 578, 579, 580, 581, 582, 583, 584, 585, 586, 587, 588, 589, 590, 591, 563, 564, 565, 566, 562] (by decide +kernel) (by decide +kernel)
set_option maxRecDepth 20000 in
theorem gL_law_X6_load : GoodIn wsL_law (wsV RL 38 RX6 yX6_load wsX6_load) := goodIn_app (goodIn_of _ (by decide +kernel)) ggL_law_X6_load
set_option maxRecDepth 20000 in
theorem ggL_law_X7_load : GoodIn wsL_law wsX7_load := goodIn_r _ [243, 198, 52, 53, 55, 56, 50, 54, 185, 186, 187, 5, 188, 101, 102, 103, 104, 244, 245, 246, 247, 248, 249, 250, 251, 252, 253, 254, 255, 58, 47, 159, 160, 161, 162, 163, 59, 61, 60, 164, 165, 166, 167, 45, 168, 521, 522, 523, 524, 525, 526, 527, 528, 529, 530, 531, 532, 533, 534, 535, 536, 537, 538, 539, 540, 541, 542, 543, 544, 545, 546, 547, 548, 549, 550, 551, 552, 553, 554, 555, 556, 557, 558, 559, 560, 561] (by decide +kernel) (by decide +kernel)
set_option maxRecDepth 20000 in
theorem gL_law_X7_load : GoodIn wsL_law (wsV RL 42 RX7 yX7_load wsX7_load) := goodIn_app (goodIn_of _ (by decide +kernel)) ggL_law_X7_load
set_option maxRecDepth 20000 in
theorem ggL_law_X6_turn : GoodIn wsL_law wsX6_turn := goodIn_r _ [259, 260, 173, 174, 175, 2, 176, 93, 21, 94, 95, 96, 261, 262, 263, 110, 264, 265, 266, 511, 512, 513, 514, 515, 516, 517, 518, 519, 520, 567, 568, 569, 570, 571, 572, 573, 574, 575, 576, 577, 578, 579, 580, 581, 582, 583, 584] (by decide +kernel) (by decide +kernel)
set_option maxRecDepth 20000 in
theorem gL_law_X6_turn : GoodIn wsL_law (wsV RL 43 RX6 yX6_turn wsX6_turn) := goodIn_app (goodIn_of _ (by decide +kernel)) ggL_law_X6_turn
set_option maxRecDepth 20000 in
theorem ggL_law_X7_turn : GoodIn wsL_law wsX7_turn := goodIn_r _ [270, 68, 271, 69, 185, 186, 187, 5, 188, 101, 102, 103, 104, 521, 522, 523, 524, 525, 526, 527, 528, 529, 530, 531, 532, 533, 534, 535, 536, 537, 538, 539, 540, 541, 542, 543, 544, 545, 546, 547, 548, 549, 550, 551, 552, 553, 554, 555, 556, 557, 558, 559, 560, 561] (by decide +kernel) (by decide +kernel)
set_option maxRecDepth 20000 in
theorem gL_law_X7_turn : GoodIn wsL_law (wsV RL 46 RX7 yX7_turn wsX7_turn) := goodIn_app (goodIn_of _ (by decide +kernel)) ggL_law_X7_turn
set_option maxRecDepth 20000 in
theorem ggL_law_X6_lie : GoodIn wsL_law wsX6_lie := goodIn_r _ [275, 111, 173, 174, 175, 2, 176, 93, 21, 94, 95, 96, 276, 277, 278, 110, 279, 128, 119, 214, 208, 280, 221, 222, 223, 118, 224, 134, 135, 219, 225, 226, 227, 228, 229, 230, 231, 232, 233, 234, 215, 216, 217, 218, 220, 38, 39, 40, 235, 236, 237, 238, 123, 129, 130, 239, 143, 144, 122, 145, 146, 147, 148, 149, 150, 151, 152, 14, 153, 29, 154, 567, 568, 569, 570, 571, 572, 573, 574, 575, 576, 577, 578, 579, 580, 581, 582, 583, 584, 511, 512, 513, 514, 515, 516, 517, 518, 519, 520, 585, 586, 587, 588, 589, 590, 591, 563, 564, 565, 566, 562] (by decide +kernel) (by decide +kernel)
set_option maxRecDepth 20000 in
theorem gL_law_X6_lie : GoodIn wsL_law (wsV RL 47 RX6 yX6_lie wsX6_lie) := goodIn_app (goodIn_of _ (by decide +kernel)) ggL_law_X6_lie
set_option maxRecDepth 20000 in
theorem ggL_law_X7_lie : GoodIn wsL_law wsX7_lie := goodIn_r _ [284, 52, 53, 185, 186, 187, 5, 188, 101, 102, 103, 104, 285, 286, 287, 288, 62, 289, 290, 291, 292, 55, 56, 54, 67, 293, 294, 295, 296, 248, 249, 250, 251, 244, 245, 246, 247, 252, 253, 254, 255, 58, 47, 159, 160, 161, 162, 163, 59, 61, 60, 164, 165, 166, 167, 45, 168, 521, 522, 523, 524, 525, 526, 527, 528, 529, 530, 531, 532, 533, 534, 535, 536, 537, 538, 539, 540, 541, 542, 543, 544, 545, 546, 547, 548, 549, 550, 551, 552, 553, 554, 555, 556, 557, 558, 559, 560, 561] (by decide +kernel) (by decide +kernel)
set_option maxRecDepth 20000 in
theorem gL_law_X7_lie : GoodIn wsL_law (wsV RL 50 RX7 yX7_lie wsX7_lie) := goodIn_app (goodIn_of _ (by decide +kernel)) ggL_law_X7_lie
set_option maxRecDepth 20000 in
theorem ggL_law_X6_cut : GoodIn wsL_law wsX6_cut := goodIn_r _ [300, 111, 173, 174, 175, 2, 176, 93, 21, 301, 302, 303, 110, 304, 119, 123, 129, 130, 128, 265, 266, 305, 306, 307, 118, 308, 134, 135, 219, 239, 143, 144, 122, 145, 146, 147, 148, 149, 150, 151, 152, 14, 153, 29, 154, 511, 512, 513, 514, 515, 516, 517, 518, 519, 520, 567, 568, 569, 570, 571, 572, 573, 574, 575, 576, 577, 578, 579, 580, 581, 582, 583, 584, 563, 564, 565, 566, 585, 586, 587, 588, 589, 590, 591, 562] (by decide +kernel) (by decide +kernel)
set_option maxRecDepth 20000 in
theorem gL_law_X6_cut : GoodIn wsL_law (wsV RL 51 RX6 yX6_cut wsX6_cut) := goodIn_app (goodIn_of _ (by decide +kernel)) ggL_law_X6_cut
set_option maxRecDepth 20000 in
theorem ggL_law_X7_cut : GoodIn wsL_law wsX7_cut := goodIn_r _ [312, 55, 56, 58, 47, 159, 62, 68, 69, 185, 186, 187, 5, 188, 101, 102, 103, 104, 160, 161, 162, 163, 59, 61, 60, 164, 165, 166, 167, 45, 168, 521, 522, 523, 524, 525, 526, 527, 528, 529, 530, 531, 532, 533, 534, 535, 536, 537, 538, 539, 540, 541, 542, 543, 544, 545, 546, 547, 548, 549, 550, 551, 552, 553, 554, 555, 556, 557, 558, 559, 560, 561] (by decide +kernel) (by decide +kernel)
set_option maxRecDepth 20000 in
theorem gL_law_X7_cut : GoodIn wsL_law (wsV RL 55 RX7 yX7_cut wsX7_cut) := goodIn_app (goodIn_of _ (by decide +kernel)) ggL_law_X7_cut
set_option maxRecDepth 20000 in
theorem ggL_law_X6_ticks : GoodIn wsL_law wsX6_ticks := goodIn_r _ [316, 317, 111, 94, 95, 2, 96, 318, 319, 320, 321, 93, 173, 174, 175, 176, 21, 322, 323, 324, 110, 325, 128, 119, 127, 130, 326, 123, 129, 327, 328, 151, 152, 14, 153, 29, 154, 329, 330, 331, 118, 332, 134, 135, 225, 226, 227, 333, 334, 335, 336, 337, 338, 339, 340, 341, 342, 343, 344, 345, 346, 347, 348, 213, 214, 208, 265, 266, 349, 350, 351, 352, 353, 354, 355, 126, 356, 357, 358, 359, 360, 361, 15, 362, 363, 364, 365, 23, 177, 178, 179, 180, 366, 367, 368, 369, 370, 371, 372, 373, 374, 375, 262, 263, 264, 376, 377, 378, 379, 380, 236, 237, 238, 239, 143, 144, 122, 145, 146, 147, 148, 149, 150, 381, 382, 383, 384, 209, 210, 211, 212, 215, 216, 217, 218, 219, 220, 38, 39, 40, 385, 277, 278, 279, 280, 221, 222, 223, 224, 228, 229, 230, 231, 232, 233, 234, 386, 387, 388, 389, 390, 391, 392, 393, 394, 395, 396, 397, 398, 399, 400, 401, 402, 403, 404, 405, 406, 407, 408, 409, 410, 25, 203, 411, 511, 512, 513, 514, 515, 516, 517, 518, 519, 520, 567, 568, 569, 570, 571, 572, 573, 574, 575, 576, 577, 578, 579, 580, 581, 582, 583, 584, 585, 586, 587, 588, 589, 590, 591, 563, 564, 565, 566, 592, 593, 594, 595, 596, 597, 598, 599, 600, 562] (by decide +kernel) (by decide +kernel)
set_option maxRecDepth 20000 in
theorem gL_law_X6_ticks : GoodIn wsL_law (wsV RL 56 RX6 yX6_ticks wsX6_ticks) := goodIn_app (goodIn_of _ (by decide +kernel)) ggL_law_X6_ticks
set_option maxRecDepth 20000 in
theorem ggL_law_X7_ticks : GoodIn wsL_law wsX7_ticks := goodIn_r _ [415, 159, 416, 101, 102, 103, 5, 104, 417, 418, 419, 420, 71, 72, 52, 73, 53, 74, 54, 75, 78, 68, 79, 69, 62, 64, 421, 60, 61, 46, 63, 293, 294, 295, 296, 55, 422, 423, 424, 425, 76, 77, 56, 164, 165, 166, 167, 45, 168, 426, 427, 428, 429, 51, 80, 65, 66, 430, 431, 432, 433, 434, 435, 436, 437, 49, 252, 253, 254, 255, 58, 47, 160, 161, 162, 163, 59, 438, 439, 440, 441, 244, 245, 246, 247, 285, 286, 287, 288, 289, 290, 291, 292, 67, 248, 249, 250, 251, 442, 443, 444, 445, 48, 57, 446, 447, 448, 449, 450, 451, 452, 453, 454, 70, 455, 456, 457, 458, 521, 522, 523, 524, 525, 526, 527, 528, 529, 530, 531, 532, 533, 534, 535, 536, 537, 538, 539, 540, 541, 542, 543, 544, 545, 546, 547, 548, 549, 550, 551, 552, 553, 554, 555, 556, 557, 558, 559, 560, 561] (by decide +kernel) (by decide +kernel)
set_option maxRecDepth 20000 in
theorem gL_law_X7_ticks : GoodIn wsL_law (wsV RL 59 RX7 yX7_ticks wsX7_ticks) := goodIn_app (goodIn_of _ (by decide +kernel)) ggL_law_X7_ticks
set_option maxRecDepth 20000 in
theorem ggL_law_X6_machineOf : GoodIn wsL_law wsX6_machineOf := goodIn_r _ [462, 173, 174, 175, 2, 176, 93, 21, 463, 334, 335, 118, 336, 134, 337, 338, 339, 340, 464, 465, 466, 110, 467, 213, 214, 119, 398, 123, 128, 327, 326, 468, 469, 280, 265, 266, 403, 404, 405, 406, 567, 568, 569, 570, 571, 572, 573, 574, 575, 576, 577, 578, 579, 580, 581, 582, 583, 584, 511, 512, 513, 514, 515, 516, 517, 518, 519, 520, 585, 586, 587, 588, 589, 590, 591] (by decide +kernel) (by decide +kernel)
set_option maxRecDepth 20000 in
theorem gL_law_X6_machineOf : GoodIn wsL_law (wsV RL 60 RX6 yX6_machineOf wsX6_machineOf) := goodIn_app (goodIn_of _ (by decide +kernel)) ggL_law_X6_machineOf
set_option maxRecDepth 20000 in
theorem ggL_law_X7_machineOf : GoodIn wsL_law wsX7_machineOf := goodIn_r _ [473, 55, 52, 53, 57, 58, 59, 60, 61, 62, 63, 64, 65, 66, 67, 68, 69, 185, 186, 187, 5, 188, 101, 102, 103, 104, 474, 475, 476, 477, 293, 294, 295, 296, 446, 447, 448, 449, 521, 522, 523, 524, 525, 526, 527, 528, 529, 530, 531, 532, 533, 534, 535, 536, 537, 538, 539, 540, 541, 542, 543, 544, 545, 546, 547, 548, 549, 550, 551, 552, 553, 554, 555, 556, 557, 558, 559, 560, 561] (by decide +kernel) (by decide +kernel)
set_option maxRecDepth 20000 in
theorem gL_law_X7_machineOf : GoodIn wsL_law (wsV RL 63 RX7 yX7_machineOf wsX7_machineOf) := goodIn_app (goodIn_of _ (by decide +kernel)) ggL_law_X7_machineOf
set_option maxRecDepth 20000 in
theorem ggL_law_X6_data : GoodIn wsL_law wsX6_data := goodIn_r _ [481, 173, 174, 175, 2, 176, 93, 21, 482, 342, 343, 118, 344, 135, 337, 338, 339, 340, 134, 567, 568, 569, 570, 571, 572, 573, 574, 575, 576, 577, 578, 579, 580, 581, 582, 583, 584, 511, 512, 513, 514, 515, 516, 517, 518, 519, 520, 585, 586, 587] (by decide +kernel) (by decide +kernel)
set_option maxRecDepth 20000 in
theorem gL_law_X6_data : GoodIn wsL_law (wsV RL 64 RX6 yX6_data wsX6_data) := goodIn_app (goodIn_of _ (by decide +kernel)) ggL_law_X6_data
set_option maxRecDepth 20000 in
theorem ggL_law_X7_data : GoodIn wsL_law wsX7_data := goodIn_r _ [486, 56, 185, 186, 187, 5, 188, 101, 102, 103, 104, 474, 475, 476, 477, 55, 521, 522, 523, 524, 525, 526, 527, 528, 529, 530, 531, 532, 533, 534, 535, 536, 537, 538, 539, 540, 541, 542, 543, 544, 545, 546, 547, 548, 549, 550, 551, 552, 553, 554, 555, 556, 557, 558, 559, 560, 561] (by decide +kernel) (by decide +kernel)
set_option maxRecDepth 20000 in
theorem gL_law_X7_data : GoodIn wsL_law (wsV RL 67 RX7 yX7_data wsX7_data) := goodIn_app (goodIn_of _ (by decide +kernel)) ggL_law_X7_data
set_option maxRecDepth 20000 in
theorem ggL_law_X6_sum : GoodIn wsL_law wsX6_sum := goodIn_r _ [490, 173, 174, 175, 2, 176, 93, 21, 567, 568, 569, 570, 571, 572, 573, 574, 575, 576, 577, 578, 579, 580, 581, 582, 583, 584, 511, 512, 513, 514, 515, 516, 517, 518, 519, 520] (by decide +kernel) (by decide +kernel)
set_option maxRecDepth 20000 in
theorem gL_law_X6_sum : GoodIn wsL_law (wsV RL 68 RX6 yX6_sum wsX6_sum) := goodIn_app (goodIn_of _ (by decide +kernel)) ggL_law_X6_sum
set_option maxRecDepth 20000 in
theorem ggL_law_X7_sum : GoodIn wsL_law wsX7_sum := goodIn_r _ [494, 54, 185, 186, 187, 5, 188, 101, 102, 103, 104, 521, 522, 523, 524, 525, 526, 527, 528, 529, 530, 531, 532, 533, 534, 535, 536, 537, 538, 539, 540, 541, 542, 543, 544, 545, 546, 547, 548, 549, 550, 551, 552, 553, 554, 555, 556, 557, 558, 559, 560, 561] (by decide +kernel) (by decide +kernel)
set_option maxRecDepth 20000 in
theorem gL_law_X7_sum : GoodIn wsL_law (wsV RL 71 RX7 yX7_sum wsX7_sum) := goodIn_app (goodIn_of _ (by decide +kernel)) ggL_law_X7_sum
set_option maxRecDepth 20000 in
theorem ggL_law_X6_about : GoodIn wsL_law wsX6_about := goodIn_r _ [498, 93, 111, 193, 25, 499, 500, 501, 2, 502, 173, 174, 175, 176, 21, 503, 504, 505, 506, 203, 511, 512, 513, 514, 515, 516, 517, 518, 519, 520, 567, 568, 569, 570, 571, 572, 573, 574, 575, 576, 577, 578, 579, 580, 581, 582, 583, 584] (by decide +kernel) (by decide +kernel)
set_option maxRecDepth 20000 in
theorem gL_law_X6_about : GoodIn wsL_law (wsV RL 72 RX6 yX6_about wsX6_about) := goodIn_app (goodIn_of _ (by decide +kernel)) ggL_law_X6_about
set_option maxRecDepth 20000 in
theorem ggL_law_X7_about : GoodIn wsL_law wsX7_about := goodIn_r _ [510, 101, 57, 159, 421, 198, 454, 70, 455, 456, 457, 5, 458, 52, 521, 522, 523, 524, 525, 526, 527, 528, 529, 530, 531, 532, 533, 534, 535, 536, 537, 538, 539, 540, 541, 542, 543, 544, 545, 546, 547, 548, 549, 550, 551, 552, 553, 554, 555, 556, 557, 558, 559, 560, 561] (by decide +kernel) (by decide +kernel)
set_option maxRecDepth 20000 in
theorem gL_law_X7_about : GoodIn wsL_law (wsV RL 75 RX7 yX7_about wsX7_about) := goodIn_app (goodIn_of _ (by decide +kernel)) ggL_law_X7_about
theorem dL_law_0 : decode cL_law 0 = .ok (.new 7, 3) := by decide +kernel
theorem dL_law_3 : decode cL_law 3 = .ok (.dup, 1) := by decide +kernel
theorem dL_law_4 : decode cL_law 4 = .ok (.invokespecial 9, 3) := by decide +kernel
theorem dL_law_7 : decode cL_law 7 = .ok (.astore_n 1, 1) := by decide +kernel
theorem dL_law_8 : decode cL_law 8 = .ok (.new 10, 3) := by decide +kernel
theorem dL_law_11 : decode cL_law 11 = .ok (.dup, 1) := by decide +kernel
theorem dL_law_12 : decode cL_law 12 = .ok (.invokespecial 12, 3) := by decide +kernel
theorem dL_law_15 : decode cL_law 15 = .ok (.astore_n 2, 1) := by decide +kernel
theorem dL_law_16 : decode cL_law 16 = .ok (.iconst 0, 1) := by decide +kernel
theorem dL_law_17 : decode cL_law 17 = .ok (.istore_n 3, 1) := by decide +kernel
theorem dL_law_18 : decode cL_law 18 = .ok (.iload_n 3, 1) := by decide +kernel
theorem dL_law_19 : decode cL_law 19 = .ok (.aload_n 0, 1) := by decide +kernel
theorem dL_law_20 : decode cL_law 20 = .ok (.arraylength, 1) := by decide +kernel
theorem dL_law_21 : decode cL_law 21 = .ok (.iconst 5, 1) := by decide +kernel
theorem dL_law_22 : decode cL_law 22 = .ok (.isub, 1) := by decide +kernel
theorem dL_law_23 : decode cL_law 23 = .ok (.if_icmp .gt 543, 3) := by decide +kernel
theorem dL_law_26 : decode cL_law 26 = .ok (.aload_n 0, 1) := by decide +kernel
theorem dL_law_27 : decode cL_law 27 = .ok (.iload_n 3, 1) := by decide +kernel
theorem dL_law_28 : decode cL_law 28 = .ok (.iaload, 1) := by decide +kernel
theorem dL_law_29 : decode cL_law 29 = .ok (.bipush 15, 2) := by decide +kernel
theorem dL_law_31 : decode cL_law 31 = .ok (.iand, 1) := by decide +kernel
theorem dL_law_32 : decode cL_law 32 = .ok (.tableswitch 528 0 13 #[72, 93, 146, 159, 202, 225, 258, 301, 344, 393, 416, 449, 482, 505], 72) := by decide +kernel
theorem dL_law_104 : decode cL_law 104 = .ok (.aload_n 1, 1) := by decide +kernel
theorem dL_law_105 : decode cL_law 105 = .ok (.aload_n 0, 1) := by decide +kernel
theorem dL_law_106 : decode cL_law 106 = .ok (.iload_n 3, 1) := by decide +kernel
theorem dL_law_107 : decode cL_law 107 = .ok (.iconst 1, 1) := by decide +kernel
theorem dL_law_108 : decode cL_law 108 = .ok (.iadd, 1) := by decide +kernel
theorem dL_law_109 : decode cL_law 109 = .ok (.iaload, 1) := by decide +kernel
theorem dL_law_110 : decode cL_law 110 = .ok (.invokevirtual 13, 3) := by decide +kernel
theorem dL_law_113 : decode cL_law 113 = .ok (.aload_n 2, 1) := by decide +kernel
theorem dL_law_114 : decode cL_law 114 = .ok (.aload_n 0, 1) := by decide +kernel
theorem dL_law_115 : decode cL_law 115 = .ok (.iload_n 3, 1) := by decide +kernel
theorem dL_law_116 : decode cL_law 116 = .ok (.iconst 1, 1) := by decide +kernel
theorem dL_law_117 : decode cL_law 117 = .ok (.iadd, 1) := by decide +kernel
theorem dL_law_118 : decode cL_law 118 = .ok (.iaload, 1) := by decide +kernel
theorem dL_law_119 : decode cL_law 119 = .ok (.invokevirtual 17, 3) := by decide +kernel
theorem dL_law_122 : decode cL_law 122 = .ok (.goto 438, 3) := by decide +kernel
theorem dL_law_125 : decode cL_law 125 = .ok (.aload_n 1, 1) := by decide +kernel
theorem dL_law_126 : decode cL_law 126 = .ok (.aload_n 0, 1) := by decide +kernel
theorem dL_law_127 : decode cL_law 127 = .ok (.iload_n 3, 1) := by decide +kernel
theorem dL_law_128 : decode cL_law 128 = .ok (.iconst 1, 1) := by decide +kernel
theorem dL_law_129 : decode cL_law 129 = .ok (.iadd, 1) := by decide +kernel
theorem dL_law_130 : decode cL_law 130 = .ok (.iaload, 1) := by decide +kernel
theorem dL_law_131 : decode cL_law 131 = .ok (.aload_n 0, 1) := by decide +kernel
theorem dL_law_132 : decode cL_law 132 = .ok (.iload_n 3, 1) := by decide +kernel
theorem dL_law_133 : decode cL_law 133 = .ok (.iconst 2, 1) := by decide +kernel
theorem dL_law_134 : decode cL_law 134 = .ok (.iadd, 1) := by decide +kernel
theorem dL_law_135 : decode cL_law 135 = .ok (.iaload, 1) := by decide +kernel
theorem dL_law_136 : decode cL_law 136 = .ok (.aload_n 0, 1) := by decide +kernel
theorem dL_law_137 : decode cL_law 137 = .ok (.iload_n 3, 1) := by decide +kernel
theorem dL_law_138 : decode cL_law 138 = .ok (.iconst 3, 1) := by decide +kernel
theorem dL_law_139 : decode cL_law 139 = .ok (.iadd, 1) := by decide +kernel
theorem dL_law_140 : decode cL_law 140 = .ok (.iaload, 1) := by decide +kernel
theorem dL_law_141 : decode cL_law 141 = .ok (.aload_n 0, 1) := by decide +kernel
theorem dL_law_142 : decode cL_law 142 = .ok (.iload_n 3, 1) := by decide +kernel
theorem dL_law_143 : decode cL_law 143 = .ok (.iconst 4, 1) := by decide +kernel
theorem dL_law_144 : decode cL_law 144 = .ok (.iadd, 1) := by decide +kernel
theorem dL_law_145 : decode cL_law 145 = .ok (.iaload, 1) := by decide +kernel
theorem dL_law_146 : decode cL_law 146 = .ok (.invokevirtual 18, 3) := by decide +kernel
theorem dL_law_149 : decode cL_law 149 = .ok (.aload_n 2, 1) := by decide +kernel
theorem dL_law_150 : decode cL_law 150 = .ok (.aload_n 0, 1) := by decide +kernel
theorem dL_law_151 : decode cL_law 151 = .ok (.iload_n 3, 1) := by decide +kernel
theorem dL_law_152 : decode cL_law 152 = .ok (.iconst 1, 1) := by decide +kernel
theorem dL_law_153 : decode cL_law 153 = .ok (.iadd, 1) := by decide +kernel
theorem dL_law_154 : decode cL_law 154 = .ok (.iaload, 1) := by decide +kernel
theorem dL_law_155 : decode cL_law 155 = .ok (.aload_n 0, 1) := by decide +kernel
theorem dL_law_156 : decode cL_law 156 = .ok (.iload_n 3, 1) := by decide +kernel
theorem dL_law_157 : decode cL_law 157 = .ok (.iconst 2, 1) := by decide +kernel
theorem dL_law_158 : decode cL_law 158 = .ok (.iadd, 1) := by decide +kernel
theorem dL_law_159 : decode cL_law 159 = .ok (.iaload, 1) := by decide +kernel
theorem dL_law_160 : decode cL_law 160 = .ok (.aload_n 0, 1) := by decide +kernel
theorem dL_law_161 : decode cL_law 161 = .ok (.iload_n 3, 1) := by decide +kernel
theorem dL_law_162 : decode cL_law 162 = .ok (.iconst 3, 1) := by decide +kernel
theorem dL_law_163 : decode cL_law 163 = .ok (.iadd, 1) := by decide +kernel
theorem dL_law_164 : decode cL_law 164 = .ok (.iaload, 1) := by decide +kernel
theorem dL_law_165 : decode cL_law 165 = .ok (.aload_n 0, 1) := by decide +kernel
theorem dL_law_166 : decode cL_law 166 = .ok (.iload_n 3, 1) := by decide +kernel
theorem dL_law_167 : decode cL_law 167 = .ok (.iconst 4, 1) := by decide +kernel
theorem dL_law_168 : decode cL_law 168 = .ok (.iadd, 1) := by decide +kernel
theorem dL_law_169 : decode cL_law 169 = .ok (.iaload, 1) := by decide +kernel
theorem dL_law_170 : decode cL_law 170 = .ok (.invokevirtual 22, 3) := by decide +kernel
theorem dL_law_173 : decode cL_law 173 = .ok (.if_icmp .eq 387, 3) := by decide +kernel
theorem dL_law_176 : decode cL_law 176 = .ok (.iconst 0, 1) := by decide +kernel
theorem dL_law_177 : decode cL_law 177 = .ok (.ireturn, 1) := by decide +kernel
theorem dL_law_178 : decode cL_law 178 = .ok (.aload_n 1, 1) := by decide +kernel
theorem dL_law_179 : decode cL_law 179 = .ok (.invokevirtual 23, 3) := by decide +kernel
theorem dL_law_182 : decode cL_law 182 = .ok (.aload_n 2, 1) := by decide +kernel
theorem dL_law_183 : decode cL_law 183 = .ok (.invokevirtual 27, 3) := by decide +kernel
theorem dL_law_186 : decode cL_law 186 = .ok (.if_icmp .eq 374, 3) := by decide +kernel
theorem dL_law_189 : decode cL_law 189 = .ok (.iconst 0, 1) := by decide +kernel
theorem dL_law_190 : decode cL_law 190 = .ok (.ireturn, 1) := by decide +kernel
theorem dL_law_191 : decode cL_law 191 = .ok (.aload_n 1, 1) := by decide +kernel
theorem dL_law_192 : decode cL_law 192 = .ok (.aload_n 0, 1) := by decide +kernel
theorem dL_law_193 : decode cL_law 193 = .ok (.iload_n 3, 1) := by decide +kernel
theorem dL_law_194 : decode cL_law 194 = .ok (.iconst 1, 1) := by decide +kernel
theorem dL_law_195 : decode cL_law 195 = .ok (.iadd, 1) := by decide +kernel
theorem dL_law_196 : decode cL_law 196 = .ok (.iaload, 1) := by decide +kernel
theorem dL_law_197 : decode cL_law 197 = .ok (.aload_n 0, 1) := by decide +kernel
theorem dL_law_198 : decode cL_law 198 = .ok (.iload_n 3, 1) := by decide +kernel
theorem dL_law_199 : decode cL_law 199 = .ok (.iconst 2, 1) := by decide +kernel
theorem dL_law_200 : decode cL_law 200 = .ok (.iadd, 1) := by decide +kernel
theorem dL_law_201 : decode cL_law 201 = .ok (.iaload, 1) := by decide +kernel
theorem dL_law_202 : decode cL_law 202 = .ok (.aload_n 0, 1) := by decide +kernel
theorem dL_law_203 : decode cL_law 203 = .ok (.iload_n 3, 1) := by decide +kernel
theorem dL_law_204 : decode cL_law 204 = .ok (.iconst 3, 1) := by decide +kernel
theorem dL_law_205 : decode cL_law 205 = .ok (.iadd, 1) := by decide +kernel
theorem dL_law_206 : decode cL_law 206 = .ok (.iaload, 1) := by decide +kernel
theorem dL_law_207 : decode cL_law 207 = .ok (.invokevirtual 28, 3) := by decide +kernel
theorem dL_law_210 : decode cL_law 210 = .ok (.aload_n 2, 1) := by decide +kernel
theorem dL_law_211 : decode cL_law 211 = .ok (.aload_n 0, 1) := by decide +kernel
theorem dL_law_212 : decode cL_law 212 = .ok (.iload_n 3, 1) := by decide +kernel
theorem dL_law_213 : decode cL_law 213 = .ok (.iconst 1, 1) := by decide +kernel
theorem dL_law_214 : decode cL_law 214 = .ok (.iadd, 1) := by decide +kernel
theorem dL_law_215 : decode cL_law 215 = .ok (.iaload, 1) := by decide +kernel
theorem dL_law_216 : decode cL_law 216 = .ok (.aload_n 0, 1) := by decide +kernel
theorem dL_law_217 : decode cL_law 217 = .ok (.iload_n 3, 1) := by decide +kernel
theorem dL_law_218 : decode cL_law 218 = .ok (.iconst 2, 1) := by decide +kernel
theorem dL_law_219 : decode cL_law 219 = .ok (.iadd, 1) := by decide +kernel
theorem dL_law_220 : decode cL_law 220 = .ok (.iaload, 1) := by decide +kernel
theorem dL_law_221 : decode cL_law 221 = .ok (.aload_n 0, 1) := by decide +kernel
theorem dL_law_222 : decode cL_law 222 = .ok (.iload_n 3, 1) := by decide +kernel
theorem dL_law_223 : decode cL_law 223 = .ok (.iconst 3, 1) := by decide +kernel
theorem dL_law_224 : decode cL_law 224 = .ok (.iadd, 1) := by decide +kernel
theorem dL_law_225 : decode cL_law 225 = .ok (.iaload, 1) := by decide +kernel
theorem dL_law_226 : decode cL_law 226 = .ok (.invokevirtual 32, 3) := by decide +kernel
theorem dL_law_229 : decode cL_law 229 = .ok (.if_icmp .eq 331, 3) := by decide +kernel
theorem dL_law_232 : decode cL_law 232 = .ok (.iconst 0, 1) := by decide +kernel
theorem dL_law_233 : decode cL_law 233 = .ok (.ireturn, 1) := by decide +kernel
theorem dL_law_234 : decode cL_law 234 = .ok (.aload_n 1, 1) := by decide +kernel
theorem dL_law_235 : decode cL_law 235 = .ok (.aload_n 0, 1) := by decide +kernel
theorem dL_law_236 : decode cL_law 236 = .ok (.iload_n 3, 1) := by decide +kernel
theorem dL_law_237 : decode cL_law 237 = .ok (.iconst 1, 1) := by decide +kernel
theorem dL_law_238 : decode cL_law 238 = .ok (.iadd, 1) := by decide +kernel
theorem dL_law_239 : decode cL_law 239 = .ok (.iaload, 1) := by decide +kernel
theorem dL_law_240 : decode cL_law 240 = .ok (.invokevirtual 33, 3) := by decide +kernel
theorem dL_law_243 : decode cL_law 243 = .ok (.aload_n 2, 1) := by decide +kernel
theorem dL_law_244 : decode cL_law 244 = .ok (.aload_n 0, 1) := by decide +kernel
theorem dL_law_245 : decode cL_law 245 = .ok (.iload_n 3, 1) := by decide +kernel
theorem dL_law_246 : decode cL_law 246 = .ok (.iconst 1, 1) := by decide +kernel
theorem dL_law_247 : decode cL_law 247 = .ok (.iadd, 1) := by decide +kernel
theorem dL_law_248 : decode cL_law 248 = .ok (.iaload, 1) := by decide +kernel
theorem dL_law_249 : decode cL_law 249 = .ok (.invokevirtual 37, 3) := by decide +kernel
theorem dL_law_252 : decode cL_law 252 = .ok (.if_icmp .eq 308, 3) := by decide +kernel
theorem dL_law_255 : decode cL_law 255 = .ok (.iconst 0, 1) := by decide +kernel
theorem dL_law_256 : decode cL_law 256 = .ok (.ireturn, 1) := by decide +kernel
theorem dL_law_257 : decode cL_law 257 = .ok (.aload_n 1, 1) := by decide +kernel
theorem dL_law_258 : decode cL_law 258 = .ok (.aload_n 0, 1) := by decide +kernel
theorem dL_law_259 : decode cL_law 259 = .ok (.iload_n 3, 1) := by decide +kernel
theorem dL_law_260 : decode cL_law 260 = .ok (.iconst 1, 1) := by decide +kernel
theorem dL_law_261 : decode cL_law 261 = .ok (.iadd, 1) := by decide +kernel
theorem dL_law_262 : decode cL_law 262 = .ok (.iaload, 1) := by decide +kernel
theorem dL_law_263 : decode cL_law 263 = .ok (.aload_n 0, 1) := by decide +kernel
theorem dL_law_264 : decode cL_law 264 = .ok (.iload_n 3, 1) := by decide +kernel
theorem dL_law_265 : decode cL_law 265 = .ok (.iconst 2, 1) := by decide +kernel
theorem dL_law_266 : decode cL_law 266 = .ok (.iadd, 1) := by decide +kernel
theorem dL_law_267 : decode cL_law 267 = .ok (.iaload, 1) := by decide +kernel
theorem dL_law_268 : decode cL_law 268 = .ok (.invokevirtual 38, 3) := by decide +kernel
theorem dL_law_271 : decode cL_law 271 = .ok (.aload_n 2, 1) := by decide +kernel
theorem dL_law_272 : decode cL_law 272 = .ok (.aload_n 0, 1) := by decide +kernel
theorem dL_law_273 : decode cL_law 273 = .ok (.iload_n 3, 1) := by decide +kernel
theorem dL_law_274 : decode cL_law 274 = .ok (.iconst 1, 1) := by decide +kernel
theorem dL_law_275 : decode cL_law 275 = .ok (.iadd, 1) := by decide +kernel
theorem dL_law_276 : decode cL_law 276 = .ok (.iaload, 1) := by decide +kernel
theorem dL_law_277 : decode cL_law 277 = .ok (.aload_n 0, 1) := by decide +kernel
theorem dL_law_278 : decode cL_law 278 = .ok (.iload_n 3, 1) := by decide +kernel
theorem dL_law_279 : decode cL_law 279 = .ok (.iconst 2, 1) := by decide +kernel
theorem dL_law_280 : decode cL_law 280 = .ok (.iadd, 1) := by decide +kernel
theorem dL_law_281 : decode cL_law 281 = .ok (.iaload, 1) := by decide +kernel
theorem dL_law_282 : decode cL_law 282 = .ok (.invokevirtual 42, 3) := by decide +kernel
theorem dL_law_285 : decode cL_law 285 = .ok (.if_icmp .eq 275, 3) := by decide +kernel
theorem dL_law_288 : decode cL_law 288 = .ok (.iconst 0, 1) := by decide +kernel
theorem dL_law_289 : decode cL_law 289 = .ok (.ireturn, 1) := by decide +kernel
theorem dL_law_290 : decode cL_law 290 = .ok (.aload_n 1, 1) := by decide +kernel
theorem dL_law_291 : decode cL_law 291 = .ok (.aload_n 0, 1) := by decide +kernel
theorem dL_law_292 : decode cL_law 292 = .ok (.iload_n 3, 1) := by decide +kernel
theorem dL_law_293 : decode cL_law 293 = .ok (.iconst 1, 1) := by decide +kernel
theorem dL_law_294 : decode cL_law 294 = .ok (.iadd, 1) := by decide +kernel
theorem dL_law_295 : decode cL_law 295 = .ok (.iaload, 1) := by decide +kernel
theorem dL_law_296 : decode cL_law 296 = .ok (.aload_n 0, 1) := by decide +kernel
theorem dL_law_297 : decode cL_law 297 = .ok (.iload_n 3, 1) := by decide +kernel
theorem dL_law_298 : decode cL_law 298 = .ok (.iconst 2, 1) := by decide +kernel
theorem dL_law_299 : decode cL_law 299 = .ok (.iadd, 1) := by decide +kernel
theorem dL_law_300 : decode cL_law 300 = .ok (.iaload, 1) := by decide +kernel
theorem dL_law_301 : decode cL_law 301 = .ok (.aload_n 0, 1) := by decide +kernel
theorem dL_law_302 : decode cL_law 302 = .ok (.iload_n 3, 1) := by decide +kernel
theorem dL_law_303 : decode cL_law 303 = .ok (.iconst 3, 1) := by decide +kernel
theorem dL_law_304 : decode cL_law 304 = .ok (.iadd, 1) := by decide +kernel
theorem dL_law_305 : decode cL_law 305 = .ok (.iaload, 1) := by decide +kernel
theorem dL_law_306 : decode cL_law 306 = .ok (.invokevirtual 43, 3) := by decide +kernel
theorem dL_law_309 : decode cL_law 309 = .ok (.aload_n 2, 1) := by decide +kernel
theorem dL_law_310 : decode cL_law 310 = .ok (.aload_n 0, 1) := by decide +kernel
theorem dL_law_311 : decode cL_law 311 = .ok (.iload_n 3, 1) := by decide +kernel
theorem dL_law_312 : decode cL_law 312 = .ok (.iconst 1, 1) := by decide +kernel
theorem dL_law_313 : decode cL_law 313 = .ok (.iadd, 1) := by decide +kernel
theorem dL_law_314 : decode cL_law 314 = .ok (.iaload, 1) := by decide +kernel
theorem dL_law_315 : decode cL_law 315 = .ok (.aload_n 0, 1) := by decide +kernel
theorem dL_law_316 : decode cL_law 316 = .ok (.iload_n 3, 1) := by decide +kernel
theorem dL_law_317 : decode cL_law 317 = .ok (.iconst 2, 1) := by decide +kernel
theorem dL_law_318 : decode cL_law 318 = .ok (.iadd, 1) := by decide +kernel
theorem dL_law_319 : decode cL_law 319 = .ok (.iaload, 1) := by decide +kernel
theorem dL_law_320 : decode cL_law 320 = .ok (.aload_n 0, 1) := by decide +kernel
theorem dL_law_321 : decode cL_law 321 = .ok (.iload_n 3, 1) := by decide +kernel
theorem dL_law_322 : decode cL_law 322 = .ok (.iconst 3, 1) := by decide +kernel
theorem dL_law_323 : decode cL_law 323 = .ok (.iadd, 1) := by decide +kernel
theorem dL_law_324 : decode cL_law 324 = .ok (.iaload, 1) := by decide +kernel
theorem dL_law_325 : decode cL_law 325 = .ok (.invokevirtual 46, 3) := by decide +kernel
theorem dL_law_328 : decode cL_law 328 = .ok (.if_icmp .eq 232, 3) := by decide +kernel
theorem dL_law_331 : decode cL_law 331 = .ok (.iconst 0, 1) := by decide +kernel
theorem dL_law_332 : decode cL_law 332 = .ok (.ireturn, 1) := by decide +kernel
theorem dL_law_333 : decode cL_law 333 = .ok (.aload_n 1, 1) := by decide +kernel
theorem dL_law_334 : decode cL_law 334 = .ok (.aload_n 0, 1) := by decide +kernel
theorem dL_law_335 : decode cL_law 335 = .ok (.iload_n 3, 1) := by decide +kernel
theorem dL_law_336 : decode cL_law 336 = .ok (.iconst 1, 1) := by decide +kernel
theorem dL_law_337 : decode cL_law 337 = .ok (.iadd, 1) := by decide +kernel
theorem dL_law_338 : decode cL_law 338 = .ok (.iaload, 1) := by decide +kernel
theorem dL_law_339 : decode cL_law 339 = .ok (.aload_n 0, 1) := by decide +kernel
theorem dL_law_340 : decode cL_law 340 = .ok (.iload_n 3, 1) := by decide +kernel
theorem dL_law_341 : decode cL_law 341 = .ok (.iconst 2, 1) := by decide +kernel
theorem dL_law_342 : decode cL_law 342 = .ok (.iadd, 1) := by decide +kernel
theorem dL_law_343 : decode cL_law 343 = .ok (.iaload, 1) := by decide +kernel
theorem dL_law_344 : decode cL_law 344 = .ok (.aload_n 0, 1) := by decide +kernel
theorem dL_law_345 : decode cL_law 345 = .ok (.iload_n 3, 1) := by decide +kernel
theorem dL_law_346 : decode cL_law 346 = .ok (.iconst 3, 1) := by decide +kernel
theorem dL_law_347 : decode cL_law 347 = .ok (.iadd, 1) := by decide +kernel
theorem dL_law_348 : decode cL_law 348 = .ok (.iaload, 1) := by decide +kernel
theorem dL_law_349 : decode cL_law 349 = .ok (.invokevirtual 47, 3) := by decide +kernel
theorem dL_law_352 : decode cL_law 352 = .ok (.aload_n 2, 1) := by decide +kernel
theorem dL_law_353 : decode cL_law 353 = .ok (.aload_n 0, 1) := by decide +kernel
theorem dL_law_354 : decode cL_law 354 = .ok (.iload_n 3, 1) := by decide +kernel
theorem dL_law_355 : decode cL_law 355 = .ok (.iconst 1, 1) := by decide +kernel
theorem dL_law_356 : decode cL_law 356 = .ok (.iadd, 1) := by decide +kernel
theorem dL_law_357 : decode cL_law 357 = .ok (.iaload, 1) := by decide +kernel
theorem dL_law_358 : decode cL_law 358 = .ok (.aload_n 0, 1) := by decide +kernel
theorem dL_law_359 : decode cL_law 359 = .ok (.iload_n 3, 1) := by decide +kernel
theorem dL_law_360 : decode cL_law 360 = .ok (.iconst 2, 1) := by decide +kernel
theorem dL_law_361 : decode cL_law 361 = .ok (.iadd, 1) := by decide +kernel
theorem dL_law_362 : decode cL_law 362 = .ok (.iaload, 1) := by decide +kernel
theorem dL_law_363 : decode cL_law 363 = .ok (.aload_n 0, 1) := by decide +kernel
theorem dL_law_364 : decode cL_law 364 = .ok (.iload_n 3, 1) := by decide +kernel
theorem dL_law_365 : decode cL_law 365 = .ok (.iconst 3, 1) := by decide +kernel
theorem dL_law_366 : decode cL_law 366 = .ok (.iadd, 1) := by decide +kernel
theorem dL_law_367 : decode cL_law 367 = .ok (.iaload, 1) := by decide +kernel
theorem dL_law_368 : decode cL_law 368 = .ok (.invokevirtual 50, 3) := by decide +kernel
theorem dL_law_371 : decode cL_law 371 = .ok (.if_icmp .eq 189, 3) := by decide +kernel
theorem dL_law_374 : decode cL_law 374 = .ok (.iconst 0, 1) := by decide +kernel
theorem dL_law_375 : decode cL_law 375 = .ok (.ireturn, 1) := by decide +kernel
theorem dL_law_376 : decode cL_law 376 = .ok (.aload_n 1, 1) := by decide +kernel
theorem dL_law_377 : decode cL_law 377 = .ok (.aload_n 0, 1) := by decide +kernel
theorem dL_law_378 : decode cL_law 378 = .ok (.iload_n 3, 1) := by decide +kernel
theorem dL_law_379 : decode cL_law 379 = .ok (.iconst 1, 1) := by decide +kernel
theorem dL_law_380 : decode cL_law 380 = .ok (.iadd, 1) := by decide +kernel
theorem dL_law_381 : decode cL_law 381 = .ok (.iaload, 1) := by decide +kernel
theorem dL_law_382 : decode cL_law 382 = .ok (.aload_n 0, 1) := by decide +kernel
theorem dL_law_383 : decode cL_law 383 = .ok (.iload_n 3, 1) := by decide +kernel
theorem dL_law_384 : decode cL_law 384 = .ok (.iconst 2, 1) := by decide +kernel
theorem dL_law_385 : decode cL_law 385 = .ok (.iadd, 1) := by decide +kernel
theorem dL_law_386 : decode cL_law 386 = .ok (.iaload, 1) := by decide +kernel
theorem dL_law_387 : decode cL_law 387 = .ok (.ifCond .eq 7, 3) := by decide +kernel
theorem dL_law_390 : decode cL_law 390 = .ok (.iconst 1, 1) := by decide +kernel
theorem dL_law_391 : decode cL_law 391 = .ok (.goto 4, 3) := by decide +kernel
theorem dL_law_394 : decode cL_law 394 = .ok (.iconst 0, 1) := by decide +kernel
theorem dL_law_395 : decode cL_law 395 = .ok (.invokevirtual 51, 3) := by decide +kernel
theorem dL_law_398 : decode cL_law 398 = .ok (.aload_n 2, 1) := by decide +kernel
theorem dL_law_399 : decode cL_law 399 = .ok (.aload_n 0, 1) := by decide +kernel
theorem dL_law_400 : decode cL_law 400 = .ok (.iload_n 3, 1) := by decide +kernel
theorem dL_law_401 : decode cL_law 401 = .ok (.iconst 1, 1) := by decide +kernel
theorem dL_law_402 : decode cL_law 402 = .ok (.iadd, 1) := by decide +kernel
theorem dL_law_403 : decode cL_law 403 = .ok (.iaload, 1) := by decide +kernel
theorem dL_law_404 : decode cL_law 404 = .ok (.aload_n 0, 1) := by decide +kernel
theorem dL_law_405 : decode cL_law 405 = .ok (.iload_n 3, 1) := by decide +kernel
theorem dL_law_406 : decode cL_law 406 = .ok (.iconst 2, 1) := by decide +kernel
theorem dL_law_407 : decode cL_law 407 = .ok (.iadd, 1) := by decide +kernel
theorem dL_law_408 : decode cL_law 408 = .ok (.iaload, 1) := by decide +kernel
theorem dL_law_409 : decode cL_law 409 = .ok (.ifCond .eq 7, 3) := by decide +kernel
theorem dL_law_412 : decode cL_law 412 = .ok (.iconst 1, 1) := by decide +kernel
theorem dL_law_413 : decode cL_law 413 = .ok (.goto 4, 3) := by decide +kernel
theorem dL_law_416 : decode cL_law 416 = .ok (.iconst 0, 1) := by decide +kernel
theorem dL_law_417 : decode cL_law 417 = .ok (.invokevirtual 55, 3) := by decide +kernel
theorem dL_law_420 : decode cL_law 420 = .ok (.if_icmp .eq 140, 3) := by decide +kernel
theorem dL_law_423 : decode cL_law 423 = .ok (.iconst 0, 1) := by decide +kernel
theorem dL_law_424 : decode cL_law 424 = .ok (.ireturn, 1) := by decide +kernel
theorem dL_law_425 : decode cL_law 425 = .ok (.aload_n 1, 1) := by decide +kernel
theorem dL_law_426 : decode cL_law 426 = .ok (.aload_n 0, 1) := by decide +kernel
theorem dL_law_427 : decode cL_law 427 = .ok (.iload_n 3, 1) := by decide +kernel
theorem dL_law_428 : decode cL_law 428 = .ok (.iconst 1, 1) := by decide +kernel
theorem dL_law_429 : decode cL_law 429 = .ok (.iadd, 1) := by decide +kernel
theorem dL_law_430 : decode cL_law 430 = .ok (.iaload, 1) := by decide +kernel
theorem dL_law_431 : decode cL_law 431 = .ok (.invokevirtual 56, 3) := by decide +kernel
theorem dL_law_434 : decode cL_law 434 = .ok (.aload_n 2, 1) := by decide +kernel
theorem dL_law_435 : decode cL_law 435 = .ok (.aload_n 0, 1) := by decide +kernel
theorem dL_law_436 : decode cL_law 436 = .ok (.iload_n 3, 1) := by decide +kernel
theorem dL_law_437 : decode cL_law 437 = .ok (.iconst 1, 1) := by decide +kernel
theorem dL_law_438 : decode cL_law 438 = .ok (.iadd, 1) := by decide +kernel
theorem dL_law_439 : decode cL_law 439 = .ok (.iaload, 1) := by decide +kernel
theorem dL_law_440 : decode cL_law 440 = .ok (.invokevirtual 59, 3) := by decide +kernel
theorem dL_law_443 : decode cL_law 443 = .ok (.if_icmp .eq 117, 3) := by decide +kernel
theorem dL_law_446 : decode cL_law 446 = .ok (.iconst 0, 1) := by decide +kernel
theorem dL_law_447 : decode cL_law 447 = .ok (.ireturn, 1) := by decide +kernel
theorem dL_law_448 : decode cL_law 448 = .ok (.aload_n 1, 1) := by decide +kernel
theorem dL_law_449 : decode cL_law 449 = .ok (.aload_n 0, 1) := by decide +kernel
theorem dL_law_450 : decode cL_law 450 = .ok (.iload_n 3, 1) := by decide +kernel
theorem dL_law_451 : decode cL_law 451 = .ok (.iconst 1, 1) := by decide +kernel
theorem dL_law_452 : decode cL_law 452 = .ok (.iadd, 1) := by decide +kernel
theorem dL_law_453 : decode cL_law 453 = .ok (.iaload, 1) := by decide +kernel
theorem dL_law_454 : decode cL_law 454 = .ok (.aload_n 0, 1) := by decide +kernel
theorem dL_law_455 : decode cL_law 455 = .ok (.iload_n 3, 1) := by decide +kernel
theorem dL_law_456 : decode cL_law 456 = .ok (.iconst 2, 1) := by decide +kernel
theorem dL_law_457 : decode cL_law 457 = .ok (.iadd, 1) := by decide +kernel
theorem dL_law_458 : decode cL_law 458 = .ok (.iaload, 1) := by decide +kernel
theorem dL_law_459 : decode cL_law 459 = .ok (.invokevirtual 60, 3) := by decide +kernel
theorem dL_law_462 : decode cL_law 462 = .ok (.aload_n 2, 1) := by decide +kernel
theorem dL_law_463 : decode cL_law 463 = .ok (.aload_n 0, 1) := by decide +kernel
theorem dL_law_464 : decode cL_law 464 = .ok (.iload_n 3, 1) := by decide +kernel
theorem dL_law_465 : decode cL_law 465 = .ok (.iconst 1, 1) := by decide +kernel
theorem dL_law_466 : decode cL_law 466 = .ok (.iadd, 1) := by decide +kernel
theorem dL_law_467 : decode cL_law 467 = .ok (.iaload, 1) := by decide +kernel
theorem dL_law_468 : decode cL_law 468 = .ok (.aload_n 0, 1) := by decide +kernel
theorem dL_law_469 : decode cL_law 469 = .ok (.iload_n 3, 1) := by decide +kernel
theorem dL_law_470 : decode cL_law 470 = .ok (.iconst 2, 1) := by decide +kernel
theorem dL_law_471 : decode cL_law 471 = .ok (.iadd, 1) := by decide +kernel
theorem dL_law_472 : decode cL_law 472 = .ok (.iaload, 1) := by decide +kernel
theorem dL_law_473 : decode cL_law 473 = .ok (.invokevirtual 63, 3) := by decide +kernel
theorem dL_law_476 : decode cL_law 476 = .ok (.if_icmp .eq 84, 3) := by decide +kernel
theorem dL_law_479 : decode cL_law 479 = .ok (.iconst 0, 1) := by decide +kernel
theorem dL_law_480 : decode cL_law 480 = .ok (.ireturn, 1) := by decide +kernel
theorem dL_law_481 : decode cL_law 481 = .ok (.aload_n 1, 1) := by decide +kernel
theorem dL_law_482 : decode cL_law 482 = .ok (.aload_n 0, 1) := by decide +kernel
theorem dL_law_483 : decode cL_law 483 = .ok (.iload_n 3, 1) := by decide +kernel
theorem dL_law_484 : decode cL_law 484 = .ok (.iconst 1, 1) := by decide +kernel
theorem dL_law_485 : decode cL_law 485 = .ok (.iadd, 1) := by decide +kernel
theorem dL_law_486 : decode cL_law 486 = .ok (.iaload, 1) := by decide +kernel
theorem dL_law_487 : decode cL_law 487 = .ok (.aload_n 0, 1) := by decide +kernel
theorem dL_law_488 : decode cL_law 488 = .ok (.iload_n 3, 1) := by decide +kernel
theorem dL_law_489 : decode cL_law 489 = .ok (.iconst 2, 1) := by decide +kernel
theorem dL_law_490 : decode cL_law 490 = .ok (.iadd, 1) := by decide +kernel
theorem dL_law_491 : decode cL_law 491 = .ok (.iaload, 1) := by decide +kernel
theorem dL_law_492 : decode cL_law 492 = .ok (.invokevirtual 64, 3) := by decide +kernel
theorem dL_law_495 : decode cL_law 495 = .ok (.aload_n 2, 1) := by decide +kernel
theorem dL_law_496 : decode cL_law 496 = .ok (.aload_n 0, 1) := by decide +kernel
theorem dL_law_497 : decode cL_law 497 = .ok (.iload_n 3, 1) := by decide +kernel
theorem dL_law_498 : decode cL_law 498 = .ok (.iconst 1, 1) := by decide +kernel
theorem dL_law_499 : decode cL_law 499 = .ok (.iadd, 1) := by decide +kernel
theorem dL_law_500 : decode cL_law 500 = .ok (.iaload, 1) := by decide +kernel
theorem dL_law_501 : decode cL_law 501 = .ok (.aload_n 0, 1) := by decide +kernel
theorem dL_law_502 : decode cL_law 502 = .ok (.iload_n 3, 1) := by decide +kernel
theorem dL_law_503 : decode cL_law 503 = .ok (.iconst 2, 1) := by decide +kernel
theorem dL_law_504 : decode cL_law 504 = .ok (.iadd, 1) := by decide +kernel
theorem dL_law_505 : decode cL_law 505 = .ok (.iaload, 1) := by decide +kernel
theorem dL_law_506 : decode cL_law 506 = .ok (.invokevirtual 67, 3) := by decide +kernel
theorem dL_law_509 : decode cL_law 509 = .ok (.if_icmp .eq 51, 3) := by decide +kernel
theorem dL_law_512 : decode cL_law 512 = .ok (.iconst 0, 1) := by decide +kernel
theorem dL_law_513 : decode cL_law 513 = .ok (.ireturn, 1) := by decide +kernel
theorem dL_law_514 : decode cL_law 514 = .ok (.aload_n 1, 1) := by decide +kernel
theorem dL_law_515 : decode cL_law 515 = .ok (.aload_n 0, 1) := by decide +kernel
theorem dL_law_516 : decode cL_law 516 = .ok (.iload_n 3, 1) := by decide +kernel
theorem dL_law_517 : decode cL_law 517 = .ok (.iconst 1, 1) := by decide +kernel
theorem dL_law_518 : decode cL_law 518 = .ok (.iadd, 1) := by decide +kernel
theorem dL_law_519 : decode cL_law 519 = .ok (.iaload, 1) := by decide +kernel
theorem dL_law_520 : decode cL_law 520 = .ok (.invokevirtual 68, 3) := by decide +kernel
theorem dL_law_523 : decode cL_law 523 = .ok (.aload_n 2, 1) := by decide +kernel
end
section
theorem dL_law_524 : decode cL_law 524 = .ok (.aload_n 0, 1) := by decide +kernel
theorem dL_law_525 : decode cL_law 525 = .ok (.iload_n 3, 1) := by decide +kernel
theorem dL_law_526 : decode cL_law 526 = .ok (.iconst 1, 1) := by decide +kernel
theorem dL_law_527 : decode cL_law 527 = .ok (.iadd, 1) := by decide +kernel
theorem dL_law_528 : decode cL_law 528 = .ok (.iaload, 1) := by decide +kernel
theorem dL_law_529 : decode cL_law 529 = .ok (.invokevirtual 71, 3) := by decide +kernel
theorem dL_law_532 : decode cL_law 532 = .ok (.if_icmp .eq 28, 3) := by decide +kernel
theorem dL_law_535 : decode cL_law 535 = .ok (.iconst 0, 1) := by decide +kernel
theorem dL_law_536 : decode cL_law 536 = .ok (.ireturn, 1) := by decide +kernel
theorem dL_law_537 : decode cL_law 537 = .ok (.aload_n 1, 1) := by decide +kernel
theorem dL_law_538 : decode cL_law 538 = .ok (.aload_n 0, 1) := by decide +kernel
theorem dL_law_539 : decode cL_law 539 = .ok (.iload_n 3, 1) := by decide +kernel
theorem dL_law_540 : decode cL_law 540 = .ok (.iconst 1, 1) := by decide +kernel
theorem dL_law_541 : decode cL_law 541 = .ok (.iadd, 1) := by decide +kernel
theorem dL_law_542 : decode cL_law 542 = .ok (.iaload, 1) := by decide +kernel
theorem dL_law_543 : decode cL_law 543 = .ok (.invokevirtual 72, 3) := by decide +kernel
theorem dL_law_546 : decode cL_law 546 = .ok (.aload_n 2, 1) := by decide +kernel
theorem dL_law_547 : decode cL_law 547 = .ok (.aload_n 0, 1) := by decide +kernel
theorem dL_law_548 : decode cL_law 548 = .ok (.iload_n 3, 1) := by decide +kernel
theorem dL_law_549 : decode cL_law 549 = .ok (.iconst 1, 1) := by decide +kernel
theorem dL_law_550 : decode cL_law 550 = .ok (.iadd, 1) := by decide +kernel
theorem dL_law_551 : decode cL_law 551 = .ok (.iaload, 1) := by decide +kernel
theorem dL_law_552 : decode cL_law 552 = .ok (.invokevirtual 75, 3) := by decide +kernel
theorem dL_law_555 : decode cL_law 555 = .ok (.if_icmp .eq 5, 3) := by decide +kernel
theorem dL_law_558 : decode cL_law 558 = .ok (.iconst 0, 1) := by decide +kernel
theorem dL_law_559 : decode cL_law 559 = .ok (.ireturn, 1) := by decide +kernel
theorem dL_law_560 : decode cL_law 560 = .ok (.iinc 3 5, 3) := by decide +kernel
theorem dL_law_563 : decode cL_law 563 = .ok (.goto (-545), 3) := by decide +kernel
theorem dL_law_566 : decode cL_law 566 = .ok (.iconst 1, 1) := by decide +kernel
theorem dL_law_567 : decode cL_law 567 = .ok (.ireturn, 1) := by decide +kernel
abbrev vwCl : List vw_C := [(RX0, TX0, 3), (RX1, TX1, 1), (RX2, TX2, 4), (RX3, TX3, 9), (RX4, TX4, 18), (RX5, TX5, 4), (RX6, TX6, 10), (RX7, TX7, 41)]
end
section
/-! my own layer: worlds of explicit cells, contracts, calls -/
abbrev zF : Type := Nat → Int32
def zl {α β : Type} (x : α) (k : α → β) : β := k x
def zu (F : Nat → zF) (k i : Nat) (v : Int32) : Nat → zF := va_up F k (upd (F k) i v)
theorem z_lt {α β : Type} {x : α} {k : α → Option β} {r : β} (h : zl x k = some r) : ∃ y, y = x ∧ k y = some r := ⟨x, rfl, h⟩
theorem z_in {β : Type} {i : Int32} {n : Nat} {K : Option β} {r : β} (h : (if i < 0 ∨ n ≤ i.toNatClampNeg then none else K) = some r) : vp_in i n ∧ K = some r := by
  by_cases hb : i < 0 ∨ n ≤ i.toNatClampNeg
  · rw [if_pos hb] at h; cases h
  · rw [if_neg hb] at h; exact ⟨hb, h⟩
theorem z_nz {β : Type} {y : Int32} {K : Option β} {r : β} (h : (if y = 0 then none else K) = some r) : ¬ y = 0 ∧ K = some r := by
  by_cases hb : y = 0
  · rw [if_pos hb] at h; cases h
  · rw [if_neg hb] at h; exact ⟨hb, h⟩
theorem z_bd {α β : Type} {o : Option α} {f : α → Option β} {r : β} (h : o.bind f = some r) : ∃ u, o = some u ∧ f u = some r := by
  cases o with
  | none => cases h
  | some u => exact ⟨u, rfl, h⟩
theorem z_bl {β : Type} {v : Int32} {K : Option β} {r : β} (h : (if v = 0 ∨ v = 1 then K else none) = some r) : narrow .boolean (.int v) = .int v ∧ K = some r := by
  by_cases hb : v = 0 ∨ v = 1
  · rw [if_pos hb] at h
    refine ⟨?_, h⟩
    rcases hb with rfl | rfl <;> rfl
  · rw [if_neg hb] at h; cases h
theorem z_t {β : Type} {c : Prop} [Decidable c] {K1 K2 : Option β} {r : β} (hc : c) (h : (if c then K1 else K2) = some r) : K1 = some r := (if_pos hc).symm.trans h
theorem z_f {β : Type} {c : Prop} [Decidable c] {K1 K2 : Option β} {r : β} (hc : ¬ c) (h : (if c then K1 else K2) = some r) : K2 = some r := (if_neg hc).symm.trans h
abbrev zT (cI cA : ClassId) : List (ClassId × FieldType) := [(cI, .int), (cA, .object RX4)]
def zN : List Cond := [.fieldLinkNest "MeshField" 46 "MeshField$Draws" "state" "I" "MeshField", .fieldLinkNest "MeshField" 56 "MeshField$Rules" "few" "I" "MeshField", .fieldLinkNest "MeshField$Machine" 119 "MeshField$Rules" "few" "I" "MeshField", .fieldLinkNest "MeshField" 59 "MeshField$Rules" "low" "I" "MeshField", .fieldLinkNest "MeshField$Machine" 78 "MeshField$Rules" "low" "I" "MeshField", .fieldLinkNest "MeshField" 62 "MeshField$Rules" "high" "I" "MeshField", .fieldLinkNest "MeshField$Machine" 166 "MeshField$Rules" "high" "I" "MeshField", .fieldLinkNest "MeshField" 65 "MeshField$Rules" "wait" "I" "MeshField", .fieldLinkNest "MeshField$Machine" 148 "MeshField$Rules" "wait" "I" "MeshField", .fieldLinkNest "MeshField$Machine" 68 "MeshField$Basis" "rank" "I" "MeshField", .fieldLinkNest "MeshField" 113 "MeshField$Basis" "rank" "I" "MeshField", .fieldLinkNest "MeshField$Machine" 75 "MeshField$Interval" "span" "I" "MeshField", .fieldLinkNest "MeshField$Machine" 163 "MeshField$Interval" "began" "I" "MeshField", .fieldLinkNest "MeshField$Machine" 113 "MeshField$Interval" "tellsAt" "I" "MeshField", .fieldLinkNest "MeshField$Machine" 116 "MeshField$Interval" "heard" "I" "MeshField", .fieldLinkNest "MeshField$Machine" 125 "MeshField$Letter" "kind" "I" "MeshField", .fieldLinkNest "MeshField$Machine" 128 "MeshField$Letter" "number" "I" "MeshField", .fieldLinkNest "MeshField$Machine" 129 "MeshField$Letter" "rank" "I" "MeshField", .fieldLinkNest "MeshField$Machine" 130 "MeshField$Letter" "pieces" "I" "MeshField", .fieldLinkNest "MeshField$Machine" 131 "MeshField$Letter" "programSum" "I" "MeshField", .fieldLinkNest "MeshField$Basis" 36 "MeshField$Letter" "mask" "I" "MeshField", .fieldLinkNest "MeshField$Machine" 151 "MeshField$Letter" "mask" "I" "MeshField", .fieldLinkNest "MeshField$Basis" 41 "MeshField$Letter" "mixed" "I" "MeshField", .fieldLinkNest "MeshField$Machine" 154 "MeshField$Letter" "mixed" "I" "MeshField", .fieldLinkNest "MeshField$Machine" 134 "MeshField$Letter" "turnNumber" "I" "MeshField", .fieldLinkNest "MeshField$Machine" 135 "MeshField$Letter" "turnTick" "I" "MeshField", .fieldLinkNest "MeshField" 109 "MeshField$Machine" "basis" "LMeshField$Basis;" "MeshField", .fieldLinkNest "MeshField" 71 "MeshField$Machine" "interval" "LMeshField$Interval;" "MeshField", .fieldLinkNest "MeshField" 176 "MeshField$Machine" "letter" "LMeshField$Letter;" "MeshField", .fieldLinkNest "MeshField" 172 "MeshField$Machine" "caught" "LMeshField$Letter;" "MeshField", .fieldLinkNest "MeshField" 95 "MeshField$Machine" "number" "I" "MeshField", .fieldLinkNest "MeshField" 123 "MeshField$Machine" "pieces" "I" "MeshField", .fieldLinkNest "MeshField" 159 "MeshField$Machine" "keptSum" "I" "MeshField", .fieldLinkNest "MeshField" 218 "MeshField$Machine" "runs" "I" "MeshField", .fieldLinkNest "MeshField" 212 "MeshField$Machine" "tellsSent" "I" "MeshField", .fieldLinkNest "MeshField" 215 "MeshField$Machine" "mixesSent" "I" "MeshField", .fieldLinkNest "MeshField" 192 "MeshField$Machine" "spoilt" "I" "MeshField", .fieldLinkNest "MeshField" 198 "MeshField$Machine" "lost" "I" "MeshField", .methodLinkNest "MeshField" 9 ⟨"MeshField$Draws", "<init>", "()V"⟩ "MeshField", .methodLinkNest "MeshField" 18 ⟨"MeshField$Rules", "<init>", "()V"⟩ "MeshField", .methodLinkNest "MeshField$Machine" 11 ⟨"MeshField$Basis", "<init>", "()V"⟩ "MeshField", .methodLinkNest "MeshField$Machine" 20 ⟨"MeshField$Interval", "<init>", "()V"⟩ "MeshField", .methodLinkNest "MeshField$Machine" 27 ⟨"MeshField$Letter", "<init>", "()V"⟩ "MeshField"]
def zNest : Cond → Bool
  | .fieldLinkNest _ _ _ _ _ _ => true
  | .methodLinkNest _ _ _ _ => true
  | _ => false
theorem zN_ok : ∀ w ∈ zN, zNest w = true := by decide +kernel
theorem zNw.warm {w : Cond} (h : zNest w = true) {s U : State} (hW : s.WarmedH U.vm) (hZ : va_Nw w s) : va_Nw w U := by
  cases w with
  | fieldLinkNest a i b n d h' => exact va_Nw.warmF hW hZ
  | methodLinkNest a i x h' => exact va_Nw.warmM hW hZ
  | _ => exact absurd h Bool.false_ne_true
theorem zNw.call {w : Cond} (h : zNest w = true) {U V : State} (e : U.vm = V.vm) (hZ : va_Nw w U) : va_Nw w V := by
  cases w with
  | fieldLinkNest a i b n d h' => exact va_Nw.same rfl e hZ
  | methodLinkNest a i x h' => exact va_Nw.same rfl e hZ
  | _ => exact absurd h Bool.false_ne_true
def zK (dD : va_G) (cI cA : ClassId) (U : State) : Prop := va_K dD vwCl (zT cI cA) U ∧ ∀ w ∈ zN, va_Nw w U
theorem zK.warm {dD : va_G} {cI cA : ClassId} {s U : State} (hW : s.WarmedH U.vm) (h : zK dD cI cA s) : zK dD cI cA U := ⟨va_K.moved hW.alike h.1, fun w hw => zNw.warm (zN_ok w hw) hW (h.2 w hw)⟩
theorem zK.call {dD : va_G} {cI cA : ClassId} {U V : State} (e : U.vm = V.vm) (h : zK dD cI cA U) : zK dD cI cA V := ⟨va_K.moved (e ▸ Vm.Alike.refl U.vm) h.1, fun w hw => zNw.call (zN_ok w hw) e (h.2 w hw)⟩
theorem zK.nw {dD : va_G} {cI cA : ClassId} {U : State} (h : zK dD cI cA U) {w : Cond} (hw : w ∈ zN) {A : Array Value} : w.before A U = true := by
  have h1 := zN_ok w hw
  have h2 := h.2 w hw
  cases w with
  | fieldLinkNest a i b n d h' => exact va_Nw.use rfl h2
  | methodLinkNest a i x h' => exact va_Nw.use rfl h2
  | _ => exact absurd h1 Bool.false_ne_true
def zPre (dD : va_G) (cI cA : ClassId) (ws : va_W) (sz : Nat) (U : State) : Prop := U.heap.size = sz ∧ va_P dD vwCl ws U.heap ∧ zK dD cI cA U ∧ va_D (fun _ => True) ws
def zPost (dD : va_G) (ws ws' : va_W) (sz : Nat) (t : State) : Prop := va_P dD vwCl ws' t.heap ∧ va_D (va_A ws sz) ws'
theorem zPre.blind {dD : va_G} {cI cA : ClassId} {ws : va_W} {sz : Nat} {av : List Value} : FrameBlind (va_Pc av (zPre dD cI cA ws sz)) := fun a U g mk q => by
  obtain ⟨q0, q1, qP, qK, qD⟩ := q
  exact ⟨q0, q1, qP, zK.call (U := U) (V := U.calling g mk a) rfl qK, qD⟩
/-- the contract of a method that answers an int (or a boolean), and makes nothing -/
def zMi (l : Launch) (y : MethodName) (wsy : List Cond) (rm : Room) (dD : va_G) (cI cA : ClassId) (av : List Value) (ws ws1 : va_W) (ans : Int32) : Prop := ∀ sz : Nat, Met l y wsy rm (va_Pc av (zPre dD cI cA ws sz)) (va_Qi (fun (r : Int32) (_ : Unit) => r = ans) (fun _ t => zPost dD ws ws1 sz t) (va_A ws sz)) 0 0 (va_A ws sz)
def zMv (l : Launch) (y : MethodName) (wsy : List Cond) (rm : Room) (dD : va_G) (cI cA : ClassId) (av : List Value) (ws ws1 : va_W) : Prop := ∀ sz : Nat, Met l y wsy rm (va_Pc av (zPre dD cI cA ws sz)) (va_Qv (fun (_ : Unit) => True) (fun _ t => zPost dD ws ws1 sz t) (va_A ws sz)) 0 0 (va_A ws sz)
theorem zMi_of {l : Launch} {y : MethodName} {wsy wsy' : List Cond} {rm : Room} {dD : va_G} {cI cA : ClassId} {av : List Value} {ws ws1 : va_W} {ans : Int32} {cc : ByteArray} {maxL : Nat} {rt : FieldType} (hy : plainName y.cls = true) (hw : wsy = Cond.code y cc maxL (some rt) :: wsy') (hnl : (lg_sl av).length ≤ maxL)
    (body : ∀ (p : Program) (e : Env) (s : State) (m : MethodId) (args : Array Value) (below : List Frame) (meth : Method) (c : Code) (A : Nat → Prop) (Q : State → Prop) (ls : Array Slot), p.tables.exec = Jvm.exec → c.code = cc → c.maxLocals = maxL → s.vm.findClass y.cls = some m.cls → (∀ w ∈ wsy, w.before args s = true) → zK dD cI cA s → (∀ q, s.heap.size ≤ q → A q) → va_P dD vwCl ws s.heap → va_D A ws → lv_has ls maxL (lv_args 0 av) →
      (∀ (H : Heap) (locs : List Loc) (ls : Array Slot) (pc : Nat), decode cc pc = .ok (.ireturn, 1) → narrow rt (.int ans) = .int ans → va_P dD vwCl ws1 H → va_D A ws1 → va_S A s.heap H locs → W p l e rm s m args below meth c H locs 0 0 Q (F0 m pc ls [.int ans])) →
      W p l e rm s m args below meth c s.heap [] 0 0 Q (F0 m 0 ls [])) : zMi l y wsy rm dD cI cA av ws ws1 ans := by
  intro sz
  refine Met.ofW (cc := cc) (maxL := maxL) (ret := some rt) hy hw ?_
  intro p e s m args below meth c s₁ B hml hv
  obtain ⟨rfl, hsz, hP, hK, hD0⟩ := hv
  subst hsz
  have hl := lv_entry av (n := maxL) hnl
  rw [lg_entry_eq]
  refine body p e s m _ below meth c (va_A ws s.heap.size) _ _ B.exec B.bytes hml (findClass_of_methodNamed B.named) (atoms_spec (ws := wsy) B.pre) hK (fun q h => Or.inr h) hP hD0.self hl ?_
  intro H locs ls pc hd hn hP hD hS
  exact W.zret B.exec B.bytes B.returns hn (fun t ht hW => ⟨⟨ans, (), rfl, rfl, by rw [ht]; exact hP, hD⟩, hS.F ht⟩) hS.2.2 hd B.notSynchronized
theorem zMv_of {l : Launch} {y : MethodName} {wsy wsy' : List Cond} {rm : Room} {dD : va_G} {cI cA : ClassId} {av : List Value} {ws ws1 : va_W} {cc : ByteArray} {maxL : Nat} (hy : plainName y.cls = true) (hw : wsy = Cond.code y cc maxL none :: wsy') (hnl : (lg_sl av).length ≤ maxL)
    (body : ∀ (p : Program) (e : Env) (s : State) (m : MethodId) (args : Array Value) (below : List Frame) (meth : Method) (c : Code) (A : Nat → Prop) (Q : State → Prop) (ls : Array Slot), p.tables.exec = Jvm.exec → c.code = cc → c.maxLocals = maxL → s.vm.findClass y.cls = some m.cls → (∀ w ∈ wsy, w.before args s = true) → zK dD cI cA s → (∀ q, s.heap.size ≤ q → A q) → va_P dD vwCl ws s.heap → va_D A ws → lv_has ls maxL (lv_args 0 av) →
      (∀ (H : Heap) (locs : List Loc) (ls : Array Slot) (pc : Nat), decode cc pc = .ok (.return_, 1) → va_P dD vwCl ws1 H → va_D A ws1 → va_S A s.heap H locs → W p l e rm s m args below meth c H locs 0 0 Q (F0 m pc ls [])) →
      W p l e rm s m args below meth c s.heap [] 0 0 Q (F0 m 0 ls [])) : zMv l y wsy rm dD cI cA av ws ws1 := by
  intro sz
  refine Met.ofW (cc := cc) (maxL := maxL) (ret := none) hy hw ?_
  intro p e s m args below meth c s₁ B hml hv
  obtain ⟨rfl, hsz, hP, hK, hD0⟩ := hv
  subst hsz
  have hl := lv_entry av (n := maxL) hnl
  rw [lg_entry_eq]
  refine body p e s m _ below meth c (va_A ws s.heap.size) _ _ B.exec B.bytes hml (findClass_of_methodNamed B.named) (atoms_spec (ws := wsy) B.pre) hK (fun q h => Or.inr h) hP hD0.self hl ?_
  intro H locs ls pc hd hP hD hS
  exact W.vret B.exec B.bytes B.returns (fun t ht hW => ⟨⟨(), rfl, trivial, by rw [ht]; exact hP, hD⟩, hS.F ht⟩) hS.2.2 hd B.notSynchronized
/-- a callee's cells wc out of a world, and the world w2 behind it -/
def zJ (dD : va_G) (A : Nat → Prop) (wc wc1 w2 : va_W) (H : Heap) : Prop := va_P dD vwCl wc H ∧ va_D A wc ∧ (∀ q, va_A wc H.size q → A q) ∧ ∀ H1 : Heap, (∀ q : Nat, q < H.size → ¬ va_A wc H.size q → H1[q]? = H[q]?) → va_P dD vwCl wc1 H1 → va_D (va_A wc H.size) wc1 → va_P dD vwCl w2 H1 ∧ va_D A w2
theorem z_map_fm {ws wc : va_W} : ∀ {is : List Nat} {wc : va_W}, is.map (fun i => ws[i]?) = wc.map some → is.filterMap (fun i => ws[i]?) = wc
  | [], [], _ => rfl
  | [], _ :: _, h => by cases h
  | _ :: _, [], h => by cases h
  | i :: is, c :: wc, h => by
    simp only [List.map_cons, List.cons.injEq] at h
    rw [List.filterMap_cons, h.1]
    simp [z_map_fm (wc := wc) h.2]
theorem zJ.of {dD : va_G} {A : Nat → Prop} {ws wc wc1 wr w2 : va_W} {H0 H : Heap} {locs : List Loc} (hP : va_P dD vwCl ws H) (hD : va_D A ws) (hS : va_S A H0 H locs) (hA : ∀ q, H0.size ≤ q → A q) (isC isR idx : List Nat) (hC : isC.map (fun i => ws[i]?) = wc.map some) (hR : isR.map (fun i => ws[i]?) = wr.map some) (hnC : va_nd isC = true) (hnR : va_nd isR = true) (hdis : (isR.all fun i => !isC.contains i) = true) (h2 : idx.map (fun i => (wr ++ wc1)[i]?) = w2.map some) (hn2 : va_nd idx = true) : zJ dD A wc wc1 w2 H := by
  refine ⟨hP.sub isC (z_map_fm (wc := wc) hC), hD.sub isC hnC hC, va_free hD hS hA isC hC, fun H1 hk hP1 hD1 => ?_⟩
  have hdis' : ∀ i ∈ isR, i ∉ isC := fun i hi hc => by
    have := List.all_eq_true.mp hdis i hi
    rw [List.contains_iff_mem.mpr hc] at this
    cases this
  obtain ⟨hP2, hD2⟩ := va_join hP hD isC isR hC hR hnR hdis' hk (va_free hD hS hA isC hC) hP1 hD1
  exact ⟨hP2.sub idx (z_map_fm (wc := w2) h2), hD2.sub idx hn2 h2⟩
section ZC
variable {p : Program} {l : Launch} {e : Env} {R : Room} {s : State} {m : MethodId} {args : Array Value} {below : List Frame} {meth : Method} {c : Code} {H : Heap} {locs : List Loc} {cells slots : Nat} {Q : State → Prop}
variable {y : MethodName} {bytes cc : ByteArray} {maxL nL n index pc : Nat} {ret : Option FieldType} {wsy Ts : List Cond} {rm : Room} {own C : String} {b : Addr} {As rest st0 : List Value} {ls : Array Slot} {A : Nat → Prop} {dD : va_G} {cI cA : ClassId} {wc wc1 w2 : va_W} {ans : Int32}
theorem z_callVi (S : CallFix p m c cc nL s args Ts own) (hK : zK dD cI cA s) (hM : zMi l y wsy rm dD cI cA (.ref b :: As) wc wc1 ans) (cw : CallW R s args own C index y bytes maxL ret wsy rm 0 0 n) (hJ : zJ dD A wc wc1 w2 H) (hS : va_S A s.heap H locs) (q0 ci : Nat) {vc : vw_C} {fs : List Value} (hci : vwCl[ci]? = some vc) (hq0 : wc[q0]? = some (b, .inr (ci, fs))) (hCn : vc.1 = C) (hn : As.length = n) (hlsz : ls.size = nL) (hst : st0 = As.reverse ++ .ref b :: rest) (hrm : (rest.map fun v => v.category).sum ≤ 8) (hdg : decode cc pc = .ok (.invokevirtual index, 3)) (hcs : cells ≤ R.cells ∧ slots ≤ R.slots)
    (kk : ∀ (H1 : Heap) (locs1 : List Loc), va_P dD vwCl w2 H1 → va_D A w2 → va_S A s.heap H1 locs1 → W p l e R s m args below meth c H1 locs1 cells slots Q (F0 m (pc + 3) ls (.int ans :: rest))) : W p l e R s m args below meth c H locs cells slots Q (F0 m pc ls st0) := by
  obtain ⟨hPc, hDc, hF, hj⟩ := hJ
  subst hCn
  refine va_calli (va_runV (As := As) (rest := rest) S (hM H.size) cw ⟨zPre.blind, va_recv hK.1 hPc hci hq0, fun U hU hW => ⟨rfl, by rw [hU], by rw [hU]; exact hPc, hK.warm hW, hDc.weaken (fun _ _ _ _ => trivial)⟩⟩ rfl hn hlsz hst (lv_room hrm) hdg ⟨hcs.1, hcs.2⟩) hS (fun q _ h => hF q h) hF (fun r u t H1 locs1 ht hvm hw hB hz1 hk1 hS1 => ?_)
  obtain ⟨hP1, hD1⟩ := hB
  rw [ht] at hP1
  obtain ⟨hP2, hD2⟩ := hj H1 hk1 hP1 hD1
  subst hw
  exact kk H1 locs1 hP2 hD2 hS1
theorem z_callVv (S : CallFix p m c cc nL s args Ts own) (hK : zK dD cI cA s) (hM : zMv l y wsy rm dD cI cA (.ref b :: As) wc wc1) (cw : CallW R s args own C index y bytes maxL ret wsy rm 0 0 n) (hJ : zJ dD A wc wc1 w2 H) (hS : va_S A s.heap H locs) (q0 ci : Nat) {vc : vw_C} {fs : List Value} (hci : vwCl[ci]? = some vc) (hq0 : wc[q0]? = some (b, .inr (ci, fs))) (hCn : vc.1 = C) (hn : As.length = n) (hlsz : ls.size = nL) (hst : st0 = As.reverse ++ .ref b :: rest) (hrm : (rest.map fun v => v.category).sum ≤ 8) (hdg : decode cc pc = .ok (.invokevirtual index, 3)) (hcs : cells ≤ R.cells ∧ slots ≤ R.slots)
    (kk : ∀ (H1 : Heap) (locs1 : List Loc), va_P dD vwCl w2 H1 → va_D A w2 → va_S A s.heap H1 locs1 → W p l e R s m args below meth c H1 locs1 cells slots Q (F0 m (pc + 3) ls rest)) : W p l e R s m args below meth c H locs cells slots Q (F0 m pc ls st0) := by
  obtain ⟨hPc, hDc, hF, hj⟩ := hJ
  subst hCn
  refine va_callv (va_runV (As := As) (rest := rest) S (hM H.size) cw ⟨zPre.blind, va_recv hK.1 hPc hci hq0, fun U hU hW => ⟨rfl, by rw [hU], by rw [hU]; exact hPc, hK.warm hW, hDc.weaken (fun _ _ _ _ => trivial)⟩⟩ rfl hn hlsz hst (lv_room hrm) hdg ⟨hcs.1, hcs.2⟩) hS (fun q _ h => hF q h) hF (fun u t H1 locs1 ht hvm hw hB hz1 hk1 hS1 => ?_)
  obtain ⟨hP1, hD1⟩ := hB
  rw [ht] at hP1
  obtain ⟨hP2, hD2⟩ := hj H1 hk1 hP1 hD1
  exact kk H1 locs1 hP2 hD2 hS1
theorem z_callSi (S : CallFix p m c cc nL s args Ts own) (hK : zK dD cI cA s) (hM : zMi l y wsy rm dD cI cA As wc wc1 ans) (cw : CallB R s args own index y bytes maxL ret wsy rm 0 0 n ∧ (Cond.static y).before args s = true) (hJ : zJ dD A wc wc1 w2 H) (hS : va_S A s.heap H locs) (hn : As.length = n) (hlsz : ls.size = nL) (hst : st0 = As.reverse ++ rest) (hrm : (rest.map fun v => v.category).sum ≤ 8) (hdg : decode cc pc = .ok (.invokestatic index, 3)) (hcs : cells ≤ R.cells ∧ slots ≤ R.slots)
    (kk : ∀ (H1 : Heap) (locs1 : List Loc), va_P dD vwCl w2 H1 → va_D A w2 → va_S A s.heap H1 locs1 → W p l e R s m args below meth c H1 locs1 cells slots Q (F0 m (pc + 3) ls (.int ans :: rest))) : W p l e R s m args below meth c H locs cells slots Q (F0 m pc ls st0) := by
  obtain ⟨hPc, hDc, hF, hj⟩ := hJ
  refine va_calli (va_runS (As := As) (rest := rest) S (hM H.size) cw ⟨zPre.blind, fun U hU hW => ⟨rfl, by rw [hU], by rw [hU]; exact hPc, hK.warm hW, hDc.weaken (fun _ _ _ _ => trivial)⟩⟩ rfl hn hlsz hst (lv_room hrm) hdg ⟨hcs.1, hcs.2⟩) hS (fun q _ h => hF q h) hF (fun r u t H1 locs1 ht hvm hw hB hz1 hk1 hS1 => ?_)
  obtain ⟨hP1, hD1⟩ := hB
  rw [ht] at hP1
  obtain ⟨hP2, hD2⟩ := hj H1 hk1 hP1 hD1
  subst hw
  exact kk H1 locs1 hP2 hD2 hS1
theorem z_callSv (S : CallFix p m c cc nL s args Ts own) (hK : zK dD cI cA s) (hM : zMv l y wsy rm dD cI cA As wc wc1) (cw : CallB R s args own index y bytes maxL ret wsy rm 0 0 n ∧ (Cond.static y).before args s = true) (hJ : zJ dD A wc wc1 w2 H) (hS : va_S A s.heap H locs) (hn : As.length = n) (hlsz : ls.size = nL) (hst : st0 = As.reverse ++ rest) (hrm : (rest.map fun v => v.category).sum ≤ 8) (hdg : decode cc pc = .ok (.invokestatic index, 3)) (hcs : cells ≤ R.cells ∧ slots ≤ R.slots)
    (kk : ∀ (H1 : Heap) (locs1 : List Loc), va_P dD vwCl w2 H1 → va_D A w2 → va_S A s.heap H1 locs1 → W p l e R s m args below meth c H1 locs1 cells slots Q (F0 m (pc + 3) ls rest)) : W p l e R s m args below meth c H locs cells slots Q (F0 m pc ls st0) := by
  obtain ⟨hPc, hDc, hF, hj⟩ := hJ
  refine va_callv (va_runS (As := As) (rest := rest) S (hM H.size) cw ⟨zPre.blind, fun U hU hW => ⟨rfl, by rw [hU], by rw [hU]; exact hPc, hK.warm hW, hDc.weaken (fun _ _ _ _ => trivial)⟩⟩ rfl hn hlsz hst (lv_room hrm) hdg ⟨hcs.1, hcs.2⟩) hS (fun q _ h => hF q h) hF (fun u t H1 locs1 ht hvm hw hB hz1 hk1 hS1 => ?_)
  obtain ⟨hP1, hD1⟩ := hB
  rw [ht] at hP1
  obtain ⟨hP2, hD2⟩ := hj H1 hk1 hP1 hD1
  exact kk H1 locs1 hP2 hD2 hS1
end ZC
/-! the cells of the system -/
def zB (q : Nat → Nat) (g : zF) : Nat × va_E := (q 1, .inr (0, [.ref (q 2), .ref (q 3), .int (g 2)]))
def zI (q : Nat → Nat) (g : zF) : Nat × va_E := (q 4, .inr (2, [.int (g 0), .int (g 1), .int (g 2), .int (g 3)]))
def zL (a : Nat) (g : zF) : Nat × va_E := (a, .inr (3, [.int (g 0), .int (g 1), .int (g 2), .int (g 3), .int (g 4), .int (g 5), .int (g 6), .int (g 7), .int (g 8)]))
def zM (q : Nat → Nat) (aR aD : Nat) (ca : Option Nat) (g : zF) : Nat × va_E := (q 0, .inr (4, [.ref aR, .ref aD, .ref (q 1), .ref (q 4), .ref (q 5), va_rf ca, .int (g 6), .int (g 7), .int (g 8), .int (g 9), .int (g 10), .int (g 11), .int (g 12), .int (g 13), .int (g 14), .int (g 15), .int (g 16), .int (g 17)]))
def zD (a : Nat) (g : zF) : Nat × va_E := (a, .inr (1, [.int (g 0)]))
def zR (a : Nat) (g : zF) : Nat × va_E := (a, .inr (5, [.int (g 0), .int (g 1), .int (g 2), .int (g 3)]))
def zA (cI : ClassId) (a n : Nat) (f : zF) : Nat × va_E := (a, .inl (cI, n, .inl f))
def zX (q : Nat → Nat) (g : zF) : Nat × va_E := (q 0, .inr (6, [.ref (q 1), .ref (q 2), .ref (q 3), .ref (q 4), .ref (q 5), .int (g 5), .int (g 6), .int (g 7), .int (g 8), .int (g 9)]))
def zZ (q : Nat → Nat) (g : zF) : Nat × va_E := (q 0, .inr (7, [.int (g 0), .int (g 1), .int (g 2), .int (g 3), .int (g 4), .int (g 5), .int (g 6), .int (g 7), .int (g 8), .ref (q 9), .ref (q 10), .ref (q 11), .ref (q 12), .ref (q 13), .ref (q 14), .ref (q 15), .ref (q 16), .ref (q 17), .ref (q 18), .ref (q 19), .ref (q 20), .ref (q 21), .ref (q 22), .ref (q 23), .ref (q 24), .ref (q 25), .ref (q 26), .ref (q 27), .ref (q 28), .int (g 29), .int (g 30), .ref (q 31), .ref (q 32), .ref (q 33), .ref (q 34), .ref (q 35), .ref (q 36), .ref (q 37), .ref (q 38), .ref (q 39), .ref (q 40)]))

section ZTOP
variable {p : Program} {l : Launch} {e : Env} {R : Room} {s : State} {m : MethodId} {args : Array Value} {below : List Frame} {meth : Method} {c : Code} {H : Heap} {locs : List Loc} {cells slots pc : Nat} {Q : State → Prop} {ls : Array Slot} {rest : List Value}
theorem z_top {x y : Int32} (h : y = x) (k : W p l e R s m args below meth c H locs cells slots Q (F0 m pc ls (.int y :: rest))) : W p l e R s m args below meth c H locs cells slots Q (F0 m pc ls (.int x :: rest)) := h ▸ k
end ZTOP
def zShl (a b : Int32) : Int32 := a <<< (b &&& 31)
def zShr (a b : Int32) : Int32 := a >>> (b &&& 31)
def zUsr (a b : Int32) : Int32 := (a.toUInt32 >>> (b.toUInt32 &&& Int32.toUInt32 31)).toInt32
def zMin (x y : Int32) : Int32 := if y < x then y else x
def zRm (a b : Int32) : Int32 := a - a / b * b
def zb0 {β : Type} (o : Option Unit) (k : Option β) : Option β := match o with | none => none | some _ => k
theorem z_b0 {β : Type} {o : Option Unit} {k : Option β} {r : β} (h : zb0 o k = some r) : o = some () ∧ k = some r := by
  cases o with
  | none => cases h
  | some u => exact ⟨rfl, h⟩
def zb1 {α0 β : Type} (o : Option (α0)) (k : α0 → Option β) : Option β := match o with | none => none | some u => k u
theorem z_b1 {α0 β : Type} {o : Option (α0)} {k : α0 → Option β} {r : β} (h : zb1 o k = some r) : ∃ x0, o = some x0 ∧ k x0 = some r := by
  cases o with
  | none => cases h
  | some u => exact ⟨u, rfl, h⟩
def zb2 {α0 α1 β : Type} (o : Option (α0 × α1)) (k : α0 → α1 → Option β) : Option β := match o with | none => none | some u => k u.1 u.2
theorem z_b2 {α0 α1 β : Type} {o : Option (α0 × α1)} {k : α0 → α1 → Option β} {r : β} (h : zb2 o k = some r) : ∃ x0 x1, o = some (x0, x1) ∧ k x0 x1 = some r := by
  cases o with
  | none => cases h
  | some u => exact ⟨u.1, u.2, rfl, h⟩
def zb3 {α0 α1 α2 β : Type} (o : Option (α0 × α1 × α2)) (k : α0 → α1 → α2 → Option β) : Option β := match o with | none => none | some u => k u.1 u.2.1 u.2.2
theorem z_b3 {α0 α1 α2 β : Type} {o : Option (α0 × α1 × α2)} {k : α0 → α1 → α2 → Option β} {r : β} (h : zb3 o k = some r) : ∃ x0 x1 x2, o = some (x0, x1, x2) ∧ k x0 x1 x2 = some r := by
  cases o with
  | none => cases h
  | some u => exact ⟨u.1, u.2.1, u.2.2, rfl, h⟩
def zb4 {α0 α1 α2 α3 β : Type} (o : Option (α0 × α1 × α2 × α3)) (k : α0 → α1 → α2 → α3 → Option β) : Option β := match o with | none => none | some u => k u.1 u.2.1 u.2.2.1 u.2.2.2
theorem z_b4 {α0 α1 α2 α3 β : Type} {o : Option (α0 × α1 × α2 × α3)} {k : α0 → α1 → α2 → α3 → Option β} {r : β} (h : zb4 o k = some r) : ∃ x0 x1 x2 x3, o = some (x0, x1, x2, x3) ∧ k x0 x1 x2 x3 = some r := by
  cases o with
  | none => cases h
  | some u => exact ⟨u.1, u.2.1, u.2.2.1, u.2.2.2, rfl, h⟩
def zb5 {α0 α1 α2 α3 α4 β : Type} (o : Option (α0 × α1 × α2 × α3 × α4)) (k : α0 → α1 → α2 → α3 → α4 → Option β) : Option β := match o with | none => none | some u => k u.1 u.2.1 u.2.2.1 u.2.2.2.1 u.2.2.2.2
theorem z_b5 {α0 α1 α2 α3 α4 β : Type} {o : Option (α0 × α1 × α2 × α3 × α4)} {k : α0 → α1 → α2 → α3 → α4 → Option β} {r : β} (h : zb5 o k = some r) : ∃ x0 x1 x2 x3 x4, o = some (x0, x1, x2, x3, x4) ∧ k x0 x1 x2 x3 x4 = some r := by
  cases o with
  | none => cases h
  | some u => exact ⟨u.1, u.2.1, u.2.2.1, u.2.2.2.1, u.2.2.2.2, rfl, h⟩
def zb6 {α0 α1 α2 α3 α4 α5 β : Type} (o : Option (α0 × α1 × α2 × α3 × α4 × α5)) (k : α0 → α1 → α2 → α3 → α4 → α5 → Option β) : Option β := match o with | none => none | some u => k u.1 u.2.1 u.2.2.1 u.2.2.2.1 u.2.2.2.2.1 u.2.2.2.2.2
theorem z_b6 {α0 α1 α2 α3 α4 α5 β : Type} {o : Option (α0 × α1 × α2 × α3 × α4 × α5)} {k : α0 → α1 → α2 → α3 → α4 → α5 → Option β} {r : β} (h : zb6 o k = some r) : ∃ x0 x1 x2 x3 x4 x5, o = some (x0, x1, x2, x3, x4, x5) ∧ k x0 x1 x2 x3 x4 x5 = some r := by
  cases o with
  | none => cases h
  | some u => exact ⟨u.1, u.2.1, u.2.2.1, u.2.2.2.1, u.2.2.2.2.1, u.2.2.2.2.2, rfl, h⟩
def zb7 {α0 α1 α2 α3 α4 α5 α6 β : Type} (o : Option (α0 × α1 × α2 × α3 × α4 × α5 × α6)) (k : α0 → α1 → α2 → α3 → α4 → α5 → α6 → Option β) : Option β := match o with | none => none | some u => k u.1 u.2.1 u.2.2.1 u.2.2.2.1 u.2.2.2.2.1 u.2.2.2.2.2.1 u.2.2.2.2.2.2
theorem z_b7 {α0 α1 α2 α3 α4 α5 α6 β : Type} {o : Option (α0 × α1 × α2 × α3 × α4 × α5 × α6)} {k : α0 → α1 → α2 → α3 → α4 → α5 → α6 → Option β} {r : β} (h : zb7 o k = some r) : ∃ x0 x1 x2 x3 x4 x5 x6, o = some (x0, x1, x2, x3, x4, x5, x6) ∧ k x0 x1 x2 x3 x4 x5 x6 = some r := by
  cases o with
  | none => cases h
  | some u => exact ⟨u.1, u.2.1, u.2.2.1, u.2.2.2.1, u.2.2.2.2.1, u.2.2.2.2.2.1, u.2.2.2.2.2.2, rfl, h⟩
theorem z_i2 {α0 α1 : Type} {x0 y0 : α0} {x1 y1 : α1} (h : some (x0, x1) = some (y0, y1)) : x0 = y0 ∧ x1 = y1 := by
  have h := Option.some.inj h
  simp only [Prod.mk.injEq] at h
  exact h
theorem z_i3 {α0 α1 α2 : Type} {x0 y0 : α0} {x1 y1 : α1} {x2 y2 : α2} (h : some (x0, x1, x2) = some (y0, y1, y2)) : x0 = y0 ∧ x1 = y1 ∧ x2 = y2 := by
  have h := Option.some.inj h
  simp only [Prod.mk.injEq] at h
  exact h
theorem z_i4 {α0 α1 α2 α3 : Type} {x0 y0 : α0} {x1 y1 : α1} {x2 y2 : α2} {x3 y3 : α3} (h : some (x0, x1, x2, x3) = some (y0, y1, y2, y3)) : x0 = y0 ∧ x1 = y1 ∧ x2 = y2 ∧ x3 = y3 := by
  have h := Option.some.inj h
  simp only [Prod.mk.injEq] at h
  exact h
theorem z_i5 {α0 α1 α2 α3 α4 : Type} {x0 y0 : α0} {x1 y1 : α1} {x2 y2 : α2} {x3 y3 : α3} {x4 y4 : α4} (h : some (x0, x1, x2, x3, x4) = some (y0, y1, y2, y3, y4)) : x0 = y0 ∧ x1 = y1 ∧ x2 = y2 ∧ x3 = y3 ∧ x4 = y4 := by
  have h := Option.some.inj h
  simp only [Prod.mk.injEq] at h
  exact h
theorem z_i6 {α0 α1 α2 α3 α4 α5 : Type} {x0 y0 : α0} {x1 y1 : α1} {x2 y2 : α2} {x3 y3 : α3} {x4 y4 : α4} {x5 y5 : α5} (h : some (x0, x1, x2, x3, x4, x5) = some (y0, y1, y2, y3, y4, y5)) : x0 = y0 ∧ x1 = y1 ∧ x2 = y2 ∧ x3 = y3 ∧ x4 = y4 ∧ x5 = y5 := by
  have h := Option.some.inj h
  simp only [Prod.mk.injEq] at h
  exact h
theorem z_i7 {α0 α1 α2 α3 α4 α5 α6 : Type} {x0 y0 : α0} {x1 y1 : α1} {x2 y2 : α2} {x3 y3 : α3} {x4 y4 : α4} {x5 y5 : α5} {x6 y6 : α6} (h : some (x0, x1, x2, x3, x4, x5, x6) = some (y0, y1, y2, y3, y4, y5, y6)) : x0 = y0 ∧ x1 = y1 ∧ x2 = y2 ∧ x3 = y3 ∧ x4 = y4 ∧ x5 = y5 ∧ x6 = y6 := by
  have h := Option.some.inj h
  simp only [Prod.mk.injEq] at h
  exact h
theorem zJ.full {dD : va_G} {A : Nat → Prop} {ws w2 : va_W} {H0 H : Heap} {locs : List Loc} (hP : va_P dD vwCl ws H) (hD : va_D A ws) (hS : va_S A H0 H locs) (hA : ∀ q, H0.size ≤ q → A q) : zJ dD A ws w2 w2 H := by
  have hF : ∀ q, va_A ws H.size q → A q := by
    intro q h
    rcases h with ⟨k, e, h⟩ | h
    · exact hD.2 k (q, e) h
    · exact hA q (Nat.le_trans hS.1 h)
  exact ⟨hP, hD, hF, fun H1 hk hP1 hD1 => ⟨hP1, hD1.weaken (fun k q _ h => hF q.1 h)⟩⟩
theorem zJ.none {dD : va_G} {A : Nat → Prop} {ws : va_W} {H0 H : Heap} {locs : List Loc} (hP : va_P dD vwCl ws H) (hD : va_D A ws) (hS : va_S A H0 H locs) (hA : ∀ q, H0.size ≤ q → A q) : zJ dD A [] [] ws H := by
  refine ⟨fun k q h => by simp at h, ⟨fun i j p q h => by simp at h, fun k q h => by simp at h⟩, fun q h => ?_, fun H1 hk hP1 hD1 => ⟨hP.kept (fun k q h => hk q.1 ((hP k q h).lt) (fun h2 => ?_)), hD⟩⟩
  · rcases h with ⟨k, e, h⟩ | h
    · simp at h
    · exact hA q (Nat.le_trans hS.1 h)
  · rcases h2 with ⟨k2, e2, h2⟩ | h2
    · simp at h2
    · have := (hP k q h).lt
      omega
def zQ (cI : ClassId) (q : Nat → Nat) (g : zF) (F : Nat → zF) : va_W := [zZ q g, zA cI (q 9) 12 (F 9), zA cI (q 10) 144 (F 10), zA cI (q 11) 12 (F 11), zA cI (q 12) 12 (F 12), zA cI (q 13) 12 (F 13), zA cI (q 14) 144 (F 14), zA cI (q 15) 144 (F 15), zA cI (q 16) 12 (F 16), zA cI (q 17) 12 (F 17), zA cI (q 18) 12 (F 18), zA cI (q 19) 12 (F 19), zA cI (q 20) 12 (F 20), zA cI (q 21) 12 (F 21), zA cI (q 22) 12 (F 22), zA cI (q 23) 12 (F 23), zA cI (q 24) 12 (F 24), zA cI (q 25) 12 (F 25), zA cI (q 26) 12 (F 26), zA cI (q 27) 12 (F 27), zA cI (q 28) 12 (F 28), zA cI (q 31) 12 (F 31), zA cI (q 32) 12 (F 32), zA cI (q 33) 12 (F 33), zA cI (q 34) 12 (F 34), zA cI (q 35) 12 (F 35), zA cI (q 36) 12 (F 36), zA cI (q 37) 12 (F 37), zA cI (q 38) 12 (F 38), zA cI (q 39) 12 (F 39), zA cI (q 40) 12 (F 40)]
end
section
def s_X0_has  (p1 : Int32) (p2 : Int32) : Option Int32 := (if ((zUsr p1 p2) &&& 1) = 0 then some (0) else some (1))
abbrev rm_X0_has : Room := { frames := 0, cells := 0, slots := 0, locals := 0 }
set_option maxHeartbeats 4000000 in
set_option maxRecDepth 100000 in
theorem c_X0_has (l : Launch) (dD : va_G) (cI cA : ClassId) (p1 : Int32) (p2 : Int32) (rv : Int32) (hsp : s_X0_has p1 p2 = some rv) : zMi l yX0_has wsX0_has rm_X0_has dD cI cA [.int p1, .int p2] ([]) ([]) rv := by
  refine zMi_of (cc := cX0_has) (maxL := 2) (by decide) rfl (Nat.le_of_ble_eq_true rfl) ?_
  intro p e s m args below meth c A Q ls hx hb hml hown hts hK hA hP hD hl hret
  have hown : s.vm.findClass RX0 = some m.cls := hown
  have hS : va_S A s.heap s.heap [] := va_S.rf
  have hl : lv_has ls 2 [(0, .int p1), (1, .int p2)] := hl
  unfold s_X0_has at hsp
  refine lv_iload_n hx hb dX0_has_0 rfl (lv_at hl 0 rfl) ?_
  refine lv_iload_n hx hb dX0_has_1 rfl (lv_at hl 1 rfl) ?_
  refine lv_iushr (v := (zUsr p1 p2)) hx hb dX0_has_2 rfl ?_
  refine lv_iconst (v := 1) hx hb dX0_has_3 (by decide) ?_
  refine lv_iand hx hb dX0_has_4 ?_
  refine lv_if_eq (tgt := 12) hx hb dX0_has_5 (by decide) (fun c1 => ?_) (fun c1 => ?_)
  · have hsp := z_t c1 hsp
    refine lv_iconst (v := 0) hx hb dX0_has_12 (by decide) ?_
    obtain rfl := Option.some.inj hsp
    exact hret _ _ ls 13 dX0_has_13 rfl hP hD hS
  · have hsp := z_f c1 hsp
    refine lv_iconst (v := 1) hx hb dX0_has_8 (by decide) ?_
    refine lv_goto (tgt := 13) hx hb dX0_has_9 (by decide) ?_
    obtain rfl := Option.some.inj hsp
    exact hret _ _ ls 13 dX0_has_13 rfl hP hD hS
def s_X0_headOf_b3  : Nat → (Int32) → (Int32) → Option Int32
  | 0, _, _ => none
  | n3 + 1, x0, x1 => (if x1 < 0 then some ((-1)) else zb1 (s_X0_has (x0) (x1)) fun (v2 : Int32) => (if v2 = 0 then zl (x1 + (-1)) fun (x5 : Int32) => (s_X0_headOf_b3  n3 (x0) (x5)) else some (x1)))
def s_X0_headOf  (p1 : Int32) : Option Int32 := (s_X0_headOf_b3  13 (p1) (11))
abbrev rm_X0_headOf : Room := { frames := 1, cells := 0, slots := 0, locals := 21 }
set_option maxHeartbeats 4000000 in
set_option maxRecDepth 100000 in
theorem c_X0_headOf (l : Launch) (dD : va_G) (cI cA : ClassId) (p1 : Int32) (rv : Int32) (hsp : s_X0_headOf p1 = some rv) : zMi l yX0_headOf wsX0_headOf rm_X0_headOf dD cI cA [.int p1] ([]) ([]) rv := by
  refine zMi_of (cc := cX0_headOf) (maxL := 2) (by decide) rfl (Nat.le_of_ble_eq_true rfl) ?_
  intro p e s m args below meth c A Q ls hx hb hml hown hts hK hA hP hD hl hret
  have hown : s.vm.findClass RX0 = some m.cls := hown
  have hS : va_S A s.heap s.heap [] := va_S.rf
  have hl : lv_has ls 2 [(0, .int p1)] := hl
  have K_3 : ∀ (n : Nat) (H : Heap) (locs : List Loc) (ls : Array Slot) (x0 : Int32) (x1 : Int32), va_P dD vwCl ([]) H → va_D A ([]) → va_S A s.heap H locs → lv_has ls 2 [(0, .int x0), (1, .int x1)] → s_X0_headOf_b3  n x0 x1 = some rv → W p l e rm_X0_headOf s m args below meth c H locs 0 0 Q (F0 m 3 ls []) := by
    intro n
    induction n with
    | zero =>
      intro H locs ls x0 x1 hP hD hS hl hsp
      exact absurd (show (none : Option Int32) = some rv from hsp) (fun h => by cases h)
    | succ n3 ih3 =>
      intro H locs ls x0 x1 hP hD hS hl hsp
      rw [s_X0_headOf_b3] at hsp
      refine lv_iload_n hx hb dX0_headOf_3 rfl (lv_at hl 1 rfl) ?_
      refine lv_if_lt (tgt := 23) hx hb dX0_headOf_4 (by decide) (fun c1 => ?_) (fun c1 => ?_)
      · have hsp := z_t c1 hsp
        refine lv_iconst (v := (-1)) hx hb dX0_headOf_23 (by decide) ?_
        obtain rfl := Option.some.inj hsp
        exact hret _ _ ls 24 dX0_headOf_24 rfl hP hD hS
      · have hsp := z_f c1 hsp
        refine lv_iload_n hx hb dX0_headOf_7 rfl (lv_at hl 0 rfl) ?_
        refine lv_iload_n hx hb dX0_headOf_8 rfl (lv_at hl 1 rfl) ?_
        obtain ⟨v2, hc3, hsp⟩ := z_b1 hsp
        refine z_callSi ⟨hx, hb, hml, hown, hts⟩ hK (c_X0_has l dD cI cA (x0) (x1) v2 hc3) (va_cwS 2 hts gX0_headOf_X0_has rfl rfl rfl (by decide +kernel) ⟨Nat.le_of_ble_eq_true rfl, Nat.le_of_ble_eq_true rfl⟩) (zJ.of (wc := []) (wc1 := []) (wr := []) (w2 := []) hP hD hS hA [] [] [] rfl rfl rfl rfl rfl rfl rfl) hS rfl hl.1 rfl (Nat.le_of_ble_eq_true rfl) dX0_headOf_9 ⟨Nat.zero_le _, Nat.zero_le _⟩ (fun H locs hP hD hS => ?_)
        refine lv_if_eq (tgt := 17) hx hb dX0_headOf_12 (by decide) (fun c4 => ?_) (fun c4 => ?_)
        · have hsp := z_t c4 hsp
          obtain ⟨x5, ex5, hsp⟩ := z_lt hsp
          refine lv_iinc (v := x5) (lv' := [(1, .int x5), (0, .int x0)]) hx hb dX0_headOf_17 hl (k := 1) rfl (by rw [ex5]; rfl) (by decide) rfl (fun ls hl => ?_)
          refine lv_goto (tgt := 3) hx hb dX0_headOf_20 (by decide) ?_
          exact ih3 _ _ ls (x0) (x5) hP hD hS (lv_sub hl [1, 0] rfl) hsp
        · have hsp := z_f c4 hsp
          refine lv_iload_n hx hb dX0_headOf_15 rfl (lv_at hl 1 rfl) ?_
          obtain rfl := Option.some.inj hsp
          exact hret _ _ ls 16 dX0_headOf_16 rfl hP hD hS
  unfold s_X0_headOf at hsp
  refine lv_bipush (v := 11) hx hb dX0_headOf_0 (by decide) ?_
  refine lv_istore_n (lv' := [(1, .int 11), (0, .int p1)]) hx hb dX0_headOf_2 rfl hl (by decide) rfl (fun ls hl => ?_)
  exact K_3 13 _ _ ls (p1) (11) hP hD hS (lv_sub hl [1, 0] rfl) hsp
def s_J7_fill_53178_b5 (nV : Nat) : Nat → (zF) → (Int32) → (Int32) → (Int32) → Option (zF)
  | 0, _, _, _, _ => none
  | n5 + 1, fv_, x1, x2, x3 => (if x3 ≤ x2 then some (fv_) else if x2 < 0 ∨ nV ≤ (x2).toNatClampNeg then none else zl (upd fv_ (x2).toNatClampNeg (x1)) fun (fv4 : zF) => zl (x2 + 1) fun (x5 : Int32) => (s_J7_fill_53178_b5 nV n5 fv4 (x1) (x5) (x3)))
def s_J7_fill_53178 (fv : zF) (nV : Nat) (p1 : Int32) : Option (zF) := zl ((nI nV)) fun (x1 : Int32) => (s_J7_fill_53178_b5 nV (nV + 1) fv (p1) (0) (x1))
abbrev rm_J7_fill_53178 : Room := { frames := 0, cells := 0, slots := 0, locals := 0 }
set_option maxHeartbeats 4000000 in
set_option maxRecDepth 100000 in
theorem c_J7_fill_53178 (l : Launch) (dD : va_G) (cI cA : ClassId) (aV : Nat) (nV : Nat) (fv : zF) (p1 : Int32) (r_fv : zF) (hsp : s_J7_fill_53178 fv nV p1 = some (r_fv)) : zMv l yJ7_fill_53178 wsJ7_fill_53178 rm_J7_fill_53178 dD cI cA [.ref aV, .int p1] ([zA cI aV nV fv]) ([zA cI aV nV r_fv]) := by
  refine zMv_of (cc := cJ7_fill_53178) (maxL := 4) (by decide) rfl (Nat.le_of_ble_eq_true rfl) ?_
  intro p e s m args below meth c A Q ls hx hb hml hown hts hK hA hP hD hl hret
  have hown : s.vm.findClass RJ7 = some m.cls := hown
  have hS : va_S A s.heap s.heap [] := va_S.rf
  have hl : lv_has ls 4 [(0, .ref aV), (1, .int p1)] := hl
  have K_5 : ∀ (n : Nat) (H : Heap) (locs : List Loc) (ls : Array Slot) (fv_ : zF) (x1 : Int32) (x2 : Int32) (x3 : Int32), va_P dD vwCl ([zA cI aV nV fv_]) H → va_D A ([zA cI aV nV fv_]) → va_S A s.heap H locs → lv_has ls 4 [(0, .ref aV), (1, .int x1), (2, .int x2), (3, .int x3)] → s_J7_fill_53178_b5 nV n fv_ x1 x2 x3 = some (r_fv) → W p l e rm_J7_fill_53178 s m args below meth c H locs 0 0 Q (F0 m 5 ls []) := by
    intro n
    induction n with
    | zero =>
      intro H locs ls fv_ x1 x2 x3 hP hD hS hl hsp
      exact absurd (show (none : Option (zF)) = some (r_fv) from hsp) (fun h => by cases h)
    | succ n5 ih5 =>
      intro H locs ls fv_ x1 x2 x3 hP hD hS hl hsp
      rw [s_J7_fill_53178_b5] at hsp
      refine lv_iload_n hx hb dJ7_fill_53178_5 rfl (lv_at hl 2 rfl) ?_
      refine lv_iload_n hx hb dJ7_fill_53178_6 rfl (lv_at hl 3 rfl) ?_
      refine lv_icmp_ge (tgt := 20) hx hb dJ7_fill_53178_7 (by decide) (fun c2 => ?_) (fun c2 => ?_)
      · have hsp := z_t c2 hsp
        obtain rfl := Option.some.inj hsp
        exact hret _ _ ls 20 dJ7_fill_53178_20 hP hD hS
      · have hsp := z_f c2 hsp
        refine lv_aload_n hx hb dJ7_fill_53178_10 rfl (lv_at hl 0 rfl) ?_
        refine lv_iload_n hx hb dJ7_fill_53178_11 rfl (lv_at hl 2 rfl) ?_
        refine lv_iload_n hx hb dJ7_fill_53178_12 rfl (lv_at hl 1 rfl) ?_
        obtain ⟨h3, hsp⟩ := z_in hsp
        refine va_iast hx hb hK.1 hP hD hS 0 0 rfl rfl h3 dJ7_fill_53178_13 (fun H locs hP hD hS => ?_)
        obtain ⟨fv4, efv4, hsp⟩ := z_lt hsp
        have hP : va_P dD vwCl ([zA cI aV nV fv4]) H := by rw [efv4]; exact hP
        have hD : va_D A ([zA cI aV nV fv4]) := by rw [efv4]; exact hD
        obtain ⟨x5, ex5, hsp⟩ := z_lt hsp
        refine lv_iinc (v := x5) (lv' := [(2, .int x5), (0, .ref aV), (1, .int x1), (3, .int x3)]) hx hb dJ7_fill_53178_14 hl (k := 2) rfl (by rw [ex5]; rfl) (by decide) rfl (fun ls hl => ?_)
        refine lv_goto (tgt := 5) hx hb dJ7_fill_53178_17 (by decide) ?_
        exact ih5 _ _ ls fv4 (x1) (x5) (x3) hP hD hS (lv_sub hl [1, 2, 0, 3] rfl) hsp
  unfold s_J7_fill_53178 at hsp
  refine lv_iconst (v := 0) hx hb dJ7_fill_53178_0 (by decide) ?_
  refine lv_istore_n (lv' := [(2, .int 0), (0, .ref aV), (1, .int p1)]) hx hb dJ7_fill_53178_1 rfl hl (by decide) rfl (fun ls hl => ?_)
  refine lv_aload_n hx hb dJ7_fill_53178_2 rfl (lv_at hl 1 rfl) ?_
  refine va_alen (v := (nI nV)) hx hb hK.1 hP 0 0 rfl rfl rfl dJ7_fill_53178_3 ?_
  obtain ⟨x1, ex1, hsp⟩ := z_lt hsp
  refine z_top ex1 ?_
  refine lv_istore_n (lv' := [(3, .int x1), (2, .int 0), (0, .ref aV), (1, .int p1)]) hx hb dJ7_fill_53178_4 rfl hl (by decide) rfl (fun ls hl => ?_)
  exact K_5 (nV + 1) _ _ ls fv (p1) (0) (x1) hP hD hS (lv_sub hl [2, 3, 1, 0] rfl) hsp
def s_X1_below (gD : zF) (p1 : Int32) : Option (Int32 × (zF)) := zl (va_up gD 0 ((((gD 0) * 1103515245) + 12345))) fun (gD1 : zF) => (if 1 ≤ p1 then if p1 = 0 then none else some ((zRm (zUsr (gD1 0) 16) p1), gD1) else some (0, gD1))
abbrev rm_X1_below : Room := { frames := 0, cells := 0, slots := 0, locals := 0 }
set_option maxHeartbeats 4000000 in
set_option maxRecDepth 100000 in
theorem c_X1_below (l : Launch) (dD : va_G) (cI cA : ClassId) (aD : Nat) (gD : zF) (p1 : Int32) (rv : Int32) (r_gD : zF) (hsp : s_X1_below gD p1 = some (rv, r_gD)) : zMi l yX1_below wsX1_below rm_X1_below dD cI cA [.ref aD, .int p1] ([zD aD gD]) ([zD aD r_gD]) rv := by
  refine zMi_of (cc := cX1_below) (maxL := 2) (by decide) rfl (Nat.le_of_ble_eq_true rfl) ?_
  intro p e s m args below meth c A Q ls hx hb hml hown hts hK hA hP hD hl hret
  have hown : s.vm.findClass RX1 = some m.cls := hown
  have iX1 : ∀ w ∈ wsX10, w ∈ wsX1_below := by decide +kernel
  have f7 := hts (.fieldLink RX1 7 "MeshField$Draws" "state" "I") (by decide +kernel)
  have hS : va_S A s.heap s.heap [] := va_S.rf
  have hl : lv_has ls 2 [(0, .ref aD), (1, .int p1)] := hl
  unfold s_X1_below at hsp
  refine lv_aload_n hx hb dX1_below_0 rfl (lv_at hl 0 rfl) ?_
  refine lv_aload_n hx hb dX1_below_1 rfl (lv_at hl 0 rfl) ?_
  refine va_get (D := dD) (ci := 1) (v := .int (gD 0)) (C := RX1) (T := TX1) (N := 1) hx hb hts iX1 hown hK.1 hP 0 rfl rfl 0 (by decide) f7 (fun _ h9 => h9) rfl dX1_below_2 ?_
  refine lv_ldc (v := 1103515245) hx hb hown (hts (.constant RX1 13 1103515245) (by decide +kernel)) dX1_below_5 ?_
  refine lv_imul hx hb dX1_below_7 ?_
  refine lv_sipush (v := 12345) hx hb dX1_below_8 (by decide) ?_
  refine lv_iadd hx hb dX1_below_11 ?_
  refine va_put (D := dD) (ci := 1) (v := .int (((gD 0) * 1103515245) + 12345)) (ty := .int) (C := RX1) (T := TX1) (N := 1) hx hb hts iX1 tyX1 tyX1_ok nmX1 hown hK.1 hP hD hS 0 rfl rfl 0 (by decide) f7 (fun _ h9 => h9) rfl (by decide +kernel) rfl rfl (Nat.le_of_ble_eq_true rfl) dX1_below_12 (fun H locs hP hD hS => ?_)
  obtain ⟨gD1, egD1, hsp⟩ := z_lt hsp
  have hP : va_P dD vwCl ([zD aD gD1]) H := by rw [egD1]; exact hP
  have hD : va_D A ([zD aD gD1]) := by rw [egD1]; exact hD
  refine lv_iload_n hx hb dX1_below_15 rfl (lv_at hl 1 rfl) ?_
  refine lv_iconst (v := 1) hx hb dX1_below_16 (by decide) ?_
  refine lv_icmp_ge (tgt := 24) hx hb dX1_below_17 (by decide) (fun c2 => ?_) (fun c2 => ?_)
  · have hsp := z_t c2 hsp
    refine lv_aload_n hx hb dX1_below_24 rfl (lv_at hl 0 rfl) ?_
    refine va_get (D := dD) (ci := 1) (v := .int (gD1 0)) (C := RX1) (T := TX1) (N := 1) hx hb hts iX1 hown hK.1 hP 0 rfl rfl 0 (by decide) f7 (fun _ h9 => h9) rfl dX1_below_25 ?_
    refine lv_bipush (v := 16) hx hb dX1_below_28 (by decide) ?_
    refine lv_iushr (v := (zUsr (gD1 0) 16)) hx hb dX1_below_30 rfl ?_
    refine lv_iload_n hx hb dX1_below_31 rfl (lv_at hl 1 rfl) ?_
    obtain ⟨h3, hsp⟩ := z_nz hsp
    refine lv_irem hx hb dX1_below_32 h3 ?_
    refine z_top (y := (zRm (zUsr (gD1 0) 16) p1)) rfl ?_
    obtain ⟨rfl, rfl⟩ := z_i2 hsp
    exact hret _ _ ls 33 dX1_below_33 rfl hP hD hS
  · have hsp := z_f c2 hsp
    refine lv_iconst (v := 0) hx hb dX1_below_20 (by decide) ?_
    refine lv_goto (tgt := 33) hx hb dX1_below_21 (by decide) ?_
    obtain ⟨rfl, rfl⟩ := z_i2 hsp
    exact hret _ _ ls 33 dX1_below_33 rfl hP hD hS
def s_X2_begin (gI : zF) (gD : zF) (p1 : Int32) (p2 : Int32) : Option ((zF) × (zF)) := zl (va_up gI 0 (p1)) fun (gI1 : zF) => zl (va_up gI1 1 (p2)) fun (gI2 : zF) => zl (va_up gI2 3 (0)) fun (gI3 : zF) => zb2 (s_X1_below gD ((p1 - (p1 / 2)))) fun (v4 : Int32) (gD5 : zF) => zl (va_up gI3 2 (((p2 + (p1 / 2)) + v4))) fun (gI7 : zF) => some (gI7, gD5)
abbrev rm_X2_begin : Room := { frames := 1, cells := 0, slots := 0, locals := 21 }
set_option maxHeartbeats 4000000 in
set_option maxRecDepth 100000 in
theorem c_X2_begin (l : Launch) (dD : va_G) (cI cA : ClassId) (q : Nat → Nat) (aD : Nat) (gI : zF) (gD : zF) (p1 : Int32) (p2 : Int32) (r_gI : zF) (r_gD : zF) (hsp : s_X2_begin gI gD p1 p2 = some (r_gI, r_gD)) : zMv l yX2_begin wsX2_begin rm_X2_begin dD cI cA [.ref (q 4), .int p1, .int p2, .ref aD] ([zI q gI, zD aD gD]) ([zI q r_gI, zD aD r_gD]) := by
  refine zMv_of (cc := cX2_begin) (maxL := 4) (by decide) rfl (Nat.le_of_ble_eq_true rfl) ?_
  intro p e s m args below meth c A Q ls hx hb hml hown hts hK hA hP hD hl hret
  have hown : s.vm.findClass RX2 = some m.cls := hown
  have iX2 : ∀ w ∈ wsX20, w ∈ wsX2_begin := by decide +kernel
  have f7 := hts (.fieldLink RX2 7 "MeshField$Interval" "span" "I") (by decide +kernel)
  have f13 := hts (.fieldLink RX2 13 "MeshField$Interval" "began" "I") (by decide +kernel)
  have f16 := hts (.fieldLink RX2 16 "MeshField$Interval" "heard" "I") (by decide +kernel)
  have f25 := hts (.fieldLink RX2 25 "MeshField$Interval" "tellsAt" "I") (by decide +kernel)
  have hS : va_S A s.heap s.heap [] := va_S.rf
  have hl : lv_has ls 4 [(0, .ref (q 4)), (1, .int p1), (2, .int p2), (3, .ref aD)] := hl
  unfold s_X2_begin at hsp
  refine lv_aload_n hx hb dX2_begin_0 rfl (lv_at hl 0 rfl) ?_
  refine lv_iload_n hx hb dX2_begin_1 rfl (lv_at hl 1 rfl) ?_
  refine va_put (D := dD) (ci := 2) (v := .int p1) (ty := .int) (C := RX2) (T := TX2) (N := 4) hx hb hts iX2 tyX2 tyX2_ok nmX2 hown hK.1 hP hD hS 0 rfl rfl 0 (by decide) f7 (fun _ h9 => h9) rfl (by decide +kernel) rfl rfl (Nat.le_of_ble_eq_true rfl) dX2_begin_2 (fun H locs hP hD hS => ?_)
  obtain ⟨gI1, egI1, hsp⟩ := z_lt hsp
  have hP : va_P dD vwCl ([zI q gI1, zD aD gD]) H := by rw [egI1]; exact hP
  have hD : va_D A ([zI q gI1, zD aD gD]) := by rw [egI1]; exact hD
  refine lv_aload_n hx hb dX2_begin_5 rfl (lv_at hl 0 rfl) ?_
  refine lv_iload_n hx hb dX2_begin_6 rfl (lv_at hl 2 rfl) ?_
  refine va_put (D := dD) (ci := 2) (v := .int p2) (ty := .int) (C := RX2) (T := TX2) (N := 4) hx hb hts iX2 tyX2 tyX2_ok nmX2 hown hK.1 hP hD hS 0 rfl rfl 1 (by decide) f13 (fun _ h9 => h9) rfl (by decide +kernel) rfl rfl (Nat.le_of_ble_eq_true rfl) dX2_begin_7 (fun H locs hP hD hS => ?_)
  obtain ⟨gI2, egI2, hsp⟩ := z_lt hsp
  have hP : va_P dD vwCl ([zI q gI2, zD aD gD]) H := by rw [egI2]; exact hP
  have hD : va_D A ([zI q gI2, zD aD gD]) := by rw [egI2]; exact hD
  refine lv_aload_n hx hb dX2_begin_10 rfl (lv_at hl 0 rfl) ?_
  refine lv_iconst (v := 0) hx hb dX2_begin_11 (by decide) ?_
  refine va_put (D := dD) (ci := 2) (v := .int 0) (ty := .int) (C := RX2) (T := TX2) (N := 4) hx hb hts iX2 tyX2 tyX2_ok nmX2 hown hK.1 hP hD hS 0 rfl rfl 3 (by decide) f16 (fun _ h9 => h9) rfl (by decide +kernel) rfl rfl (Nat.le_of_ble_eq_true rfl) dX2_begin_12 (fun H locs hP hD hS => ?_)
  obtain ⟨gI3, egI3, hsp⟩ := z_lt hsp
  have hP : va_P dD vwCl ([zI q gI3, zD aD gD]) H := by rw [egI3]; exact hP
  have hD : va_D A ([zI q gI3, zD aD gD]) := by rw [egI3]; exact hD
  refine lv_aload_n hx hb dX2_begin_15 rfl (lv_at hl 0 rfl) ?_
  refine lv_iload_n hx hb dX2_begin_16 rfl (lv_at hl 2 rfl) ?_
  refine lv_iload_n hx hb dX2_begin_17 rfl (lv_at hl 1 rfl) ?_
  refine lv_iconst (v := 2) hx hb dX2_begin_18 (by decide) ?_
  refine lv_idiv hx hb dX2_begin_19 (by decide) ?_
  refine lv_iadd hx hb dX2_begin_20 ?_
  refine lv_aload_n hx hb dX2_begin_21 rfl (lv_at hl 3 rfl) ?_
  refine lv_iload_n hx hb dX2_begin_22 rfl (lv_at hl 1 rfl) ?_
  refine lv_iload_n hx hb dX2_begin_23 rfl (lv_at hl 1 rfl) ?_
  refine lv_iconst (v := 2) hx hb dX2_begin_24 (by decide) ?_
  refine lv_idiv hx hb dX2_begin_25 (by decide) ?_
  refine lv_isub hx hb dX2_begin_26 ?_
  obtain ⟨v4, gD5, hc6, hsp⟩ := z_b2 hsp
  refine z_callVi ⟨hx, hb, hml, hown, hts⟩ hK (c_X1_below l dD cI cA aD gD ((p1 - (p1 / 2))) v4 gD5 hc6) (cwV 1 hts gX2_begin_X1_below rfl rfl rfl (by decide +kernel) ⟨Nat.le_of_ble_eq_true rfl, Nat.le_of_ble_eq_true rfl⟩) (zJ.of (wc := [zD aD gD]) (wc1 := [zD aD gD5]) (wr := [zI q gI3]) (w2 := [zI q gI3, zD aD gD5]) hP hD hS hA [1] [0] [0, 1] rfl rfl rfl rfl rfl rfl rfl) hS 0 1 rfl rfl rfl rfl hl.1 rfl (Nat.le_of_ble_eq_true rfl) dX2_begin_27 ⟨Nat.zero_le _, Nat.zero_le _⟩ (fun H locs hP hD hS => ?_)
  refine lv_iadd hx hb dX2_begin_30 ?_
  refine va_put (D := dD) (ci := 2) (v := .int ((p2 + (p1 / 2)) + v4)) (ty := .int) (C := RX2) (T := TX2) (N := 4) hx hb hts iX2 tyX2 tyX2_ok nmX2 hown hK.1 hP hD hS 0 rfl rfl 2 (by decide) f25 (fun _ h9 => h9) rfl (by decide +kernel) rfl rfl (Nat.le_of_ble_eq_true rfl) dX2_begin_31 (fun H locs hP hD hS => ?_)
  obtain ⟨gI7, egI7, hsp⟩ := z_lt hsp
  have hP : va_P dD vwCl ([zI q gI7, zD aD gD5]) H := by rw [egI7]; exact hP
  have hD : va_D A ([zI q gI7, zD aD gD5]) := by rw [egI7]; exact hD
  obtain ⟨rfl, rfl⟩ := z_i2 hsp
  exact hret _ _ ls 34 dX2_begin_34 hP hD hS
def s_X3_isSent (gH : zF) : Option Int32 := (if (gH 0) = 0 then some (0) else some (1))
abbrev rm_X3_isSent : Room := { frames := 0, cells := 0, slots := 0, locals := 0 }
set_option maxHeartbeats 4000000 in
set_option maxRecDepth 100000 in
theorem c_X3_isSent (l : Launch) (dD : va_G) (cI cA : ClassId) (aH : Nat) (gH : zF) (rv : Int32) (hsp : s_X3_isSent gH = some rv) : zMi l yX3_isSent wsX3_isSent rm_X3_isSent dD cI cA [.ref aH] ([zL aH gH]) ([zL aH gH]) rv := by
  refine zMi_of (cc := cX3_isSent) (maxL := 1) (by decide) rfl (Nat.le_of_ble_eq_true rfl) ?_
  intro p e s m args below meth c A Q ls hx hb hml hown hts hK hA hP hD hl hret
  have hown : s.vm.findClass RX3 = some m.cls := hown
  have iX3 : ∀ w ∈ wsX30, w ∈ wsX3_isSent := by decide +kernel
  have f7 := hts (.fieldLink RX3 7 "MeshField$Letter" "kind" "I") (by decide +kernel)
  have hS : va_S A s.heap s.heap [] := va_S.rf
  have hl : lv_has ls 1 [(0, .ref aH)] := hl
  unfold s_X3_isSent at hsp
  refine lv_aload_n hx hb dX3_isSent_0 rfl (lv_at hl 0 rfl) ?_
  refine va_get (D := dD) (ci := 3) (v := .int (gH 0)) (C := RX3) (T := TX3) (N := 9) hx hb hts iX3 hown hK.1 hP 0 rfl rfl 0 (by decide) f7 (fun _ h9 => h9) rfl dX3_isSent_1 ?_
  refine lv_if_eq (tgt := 11) hx hb dX3_isSent_4 (by decide) (fun c1 => ?_) (fun c1 => ?_)
  · have hsp := z_t c1 hsp
    refine lv_iconst (v := 0) hx hb dX3_isSent_11 (by decide) ?_
    obtain rfl := Option.some.inj hsp
    exact hret _ _ ls 12 dX3_isSent_12 rfl hP hD hS
  · have hsp := z_f c1 hsp
    refine lv_iconst (v := 1) hx hb dX3_isSent_7 (by decide) ?_
    refine lv_goto (tgt := 12) hx hb dX3_isSent_8 (by decide) ?_
    obtain rfl := Option.some.inj hsp
    exact hret _ _ ls 12 dX3_isSent_12 rfl hP hD hS
end
section
def s_X0_empty (gB : zF) (mk : zF) (mx : zF) : Option ((zF) × (zF) × (zF)) := zb1 (s_J7_fill_53178 mk 12 (0)) fun (mk1 : zF) => zb1 (s_J7_fill_53178 mx 12 (0)) fun (mx3 : zF) => zl (va_up gB 2 (0)) fun (gB5 : zF) => some (gB5, mk1, mx3)
abbrev rm_X0_empty : Room := { frames := 1, cells := 0, slots := 0, locals := 23 }
set_option maxHeartbeats 4000000 in
set_option maxRecDepth 100000 in
theorem c_X0_empty (l : Launch) (dD : va_G) (cI cA : ClassId) (q : Nat → Nat) (gB : zF) (mk : zF) (mx : zF) (r_gB : zF) (r_mk : zF) (r_mx : zF) (hsp : s_X0_empty gB mk mx = some (r_gB, r_mk, r_mx)) : zMv l yX0_empty wsX0_empty rm_X0_empty dD cI cA [.ref (q 1)] ([zB q gB, zA cI (q 2) 12 mk, zA cI (q 3) 12 mx]) ([zB q r_gB, zA cI (q 2) 12 r_mk, zA cI (q 3) 12 r_mx]) := by
  refine zMv_of (cc := cX0_empty) (maxL := 1) (by decide) rfl (Nat.le_of_ble_eq_true rfl) ?_
  intro p e s m args below meth c A Q ls hx hb hml hown hts hK hA hP hD hl hret
  have hown : s.vm.findClass RX0 = some m.cls := hown
  have iX0 : ∀ w ∈ wsX00, w ∈ wsX0_empty := by decide +kernel
  have f9 := hts (.fieldLink RX0 9 "MeshField$Basis" "masks" "[I") (by decide +kernel)
  have f15 := hts (.fieldLink RX0 15 "MeshField$Basis" "mixed" "[I") (by decide +kernel)
  have f24 := hts (.fieldLink RX0 24 "MeshField$Basis" "rank" "I") (by decide +kernel)
  have hS : va_S A s.heap s.heap [] := va_S.rf
  have hl : lv_has ls 1 [(0, .ref (q 1))] := hl
  unfold s_X0_empty at hsp
  refine lv_aload_n hx hb dX0_empty_0 rfl (lv_at hl 0 rfl) ?_
  refine va_get (D := dD) (ci := 0) (v := .ref (q 2)) (C := RX0) (T := TX0) (N := 3) hx hb hts iX0 hown hK.1 hP 0 rfl rfl 0 (by decide) f9 (fun _ h9 => h9) rfl dX0_empty_1 ?_
  refine lv_iconst (v := 0) hx hb dX0_empty_4 (by decide) ?_
  obtain ⟨mk1, hc2, hsp⟩ := z_b1 hsp
  refine z_callSv ⟨hx, hb, hml, hown, hts⟩ hK (c_J7_fill_53178 l dD cI cA (q 2) 12 mk (0) mk1 hc2) (va_cwS 2 hts gX0_empty_J7_fill_53178 rfl rfl rfl (by decide +kernel) ⟨Nat.le_of_ble_eq_true rfl, Nat.le_of_ble_eq_true rfl⟩) (zJ.of (wc := [zA cI (q 2) 12 mk]) (wc1 := [zA cI (q 2) 12 mk1]) (wr := [zB q gB, zA cI (q 3) 12 mx]) (w2 := [zB q gB, zA cI (q 2) 12 mk1, zA cI (q 3) 12 mx]) hP hD hS hA [1] [0, 2] [0, 2, 1] rfl rfl rfl rfl rfl rfl rfl) hS rfl hl.1 rfl (Nat.le_of_ble_eq_true rfl) dX0_empty_5 ⟨Nat.zero_le _, Nat.zero_le _⟩ (fun H locs hP hD hS => ?_)
  refine lv_aload_n hx hb dX0_empty_8 rfl (lv_at hl 0 rfl) ?_
  refine va_get (D := dD) (ci := 0) (v := .ref (q 3)) (C := RX0) (T := TX0) (N := 3) hx hb hts iX0 hown hK.1 hP 0 rfl rfl 1 (by decide) f15 (fun _ h9 => h9) rfl dX0_empty_9 ?_
  refine lv_iconst (v := 0) hx hb dX0_empty_12 (by decide) ?_
  obtain ⟨mx3, hc4, hsp⟩ := z_b1 hsp
  refine z_callSv ⟨hx, hb, hml, hown, hts⟩ hK (c_J7_fill_53178 l dD cI cA (q 3) 12 mx (0) mx3 hc4) (va_cwS 2 hts gX0_empty_J7_fill_53178 rfl rfl rfl (by decide +kernel) ⟨Nat.le_of_ble_eq_true rfl, Nat.le_of_ble_eq_true rfl⟩) (zJ.of (wc := [zA cI (q 3) 12 mx]) (wc1 := [zA cI (q 3) 12 mx3]) (wr := [zB q gB, zA cI (q 2) 12 mk1]) (w2 := [zB q gB, zA cI (q 2) 12 mk1, zA cI (q 3) 12 mx3]) hP hD hS hA [2] [0, 1] [0, 1, 2] rfl rfl rfl rfl rfl rfl rfl) hS rfl hl.1 rfl (Nat.le_of_ble_eq_true rfl) dX0_empty_13 ⟨Nat.zero_le _, Nat.zero_le _⟩ (fun H locs hP hD hS => ?_)
  refine lv_aload_n hx hb dX0_empty_16 rfl (lv_at hl 0 rfl) ?_
  refine lv_iconst (v := 0) hx hb dX0_empty_17 (by decide) ?_
  refine va_put (D := dD) (ci := 0) (v := .int 0) (ty := .int) (C := RX0) (T := TX0) (N := 3) hx hb hts iX0 tyX0 tyX0_ok nmX0 hown hK.1 hP hD hS 0 rfl rfl 2 (by decide) f24 (fun _ h9 => h9) rfl (by decide +kernel) rfl rfl (Nat.le_of_ble_eq_true rfl) dX0_empty_18 (fun H locs hP hD hS => ?_)
  obtain ⟨gB5, egB5, hsp⟩ := z_lt hsp
  have hP : va_P dD vwCl ([zB q gB5, zA cI (q 2) 12 mk1, zA cI (q 3) 12 mx3]) H := by rw [egB5]; exact hP
  have hD : va_D A ([zB q gB5, zA cI (q 2) 12 mk1, zA cI (q 3) 12 mx3]) := by rw [egB5]; exact hD
  obtain ⟨rfl, rfl, rfl⟩ := z_i3 hsp
  exact hret _ _ ls 21 dX0_empty_21 hP hD hS
def s_X0_takeIn_b79  : Nat → (zF) → (zF) → (zF) → (Int32) → (Int32) → (Int32) → (Int32) → Option (Int32 × (zF) × (zF) × (zF))
  | 0, _, _, _, _, _, _, _ => none
  | n79 + 1, gB_, mk_, mx_, x3, x4, x5, x6 => (if 12 ≤ x6 then if x5 < 0 ∨ 12 ≤ (x5).toNatClampNeg then none else zl (upd mk_ (x5).toNatClampNeg (x3)) fun (mk7 : zF) => if x5 < 0 ∨ 12 ≤ (x5).toNatClampNeg then none else zl (upd mx_ (x5).toNatClampNeg (x4)) fun (mx9 : zF) => zl (va_up gB_ 2 (((gB_ 2) + 1))) fun (gB10 : zF) => some (1, gB10, mk7, mx9) else if x6 < 0 ∨ 12 ≤ (x6).toNatClampNeg then none else zb1 (s_X0_has ((mk_ (x6).toNatClampNeg)) (x5)) fun (v12 : Int32) => (if v12 = 0 then zl (x6 + 1) fun (x15 : Int32) => (s_X0_takeIn_b79  n79 gB_ mk_ mx_ (x3) (x4) (x5) (x15)) else if x6 < 0 ∨ 12 ≤ (x6).toNatClampNeg then none else if x6 < 0 ∨ 12 ≤ (x6).toNatClampNeg then none else zl (upd mk_ (x6).toNatClampNeg (((mk_ (x6).toNatClampNeg) ^^^ x3))) fun (mk18 : zF) => if x6 < 0 ∨ 12 ≤ (x6).toNatClampNeg then none else if x6 < 0 ∨ 12 ≤ (x6).toNatClampNeg then none else zl (upd mx_ (x6).toNatClampNeg (((mx_ (x6).toNatClampNeg) ^^^ x4))) fun (mx21 : zF) => zl (x6 + 1) fun (x22 : Int32) => (s_X0_takeIn_b79  n79 gB_ mk18 mx21 (x3) (x4) (x5) (x22))))
def s_X0_takeIn_b8  : Nat → (zF) → (zF) → (zF) → (Int32) → (Int32) → (Int32) → Option (Int32 × (zF) × (zF) × (zF))
  | 0, _, _, _, _, _, _ => none
  | n8 + 1, gB_, mk_, mx_, x3, x4, x5 => (if 12 ≤ x5 then zb1 (s_X0_headOf (x3)) fun (v2 : Int32) => (if v2 = (-1) then some (0, gB_, mk_, mx_) else (s_X0_takeIn_b79  13 gB_ mk_ mx_ (x3) (x4) (v2) (0))) else if x5 < 0 ∨ 12 ≤ (x5).toNatClampNeg then none else (if (mk_ (x5).toNatClampNeg) = 0 then zl (x5 + 1) fun (x25 : Int32) => (s_X0_takeIn_b8  n8 gB_ mk_ mx_ (x3) (x4) (x25)) else zb1 (s_X0_has (x3) (x5)) fun (v26 : Int32) => (if v26 = 0 then zl (x5 + 1) fun (x29 : Int32) => (s_X0_takeIn_b8  n8 gB_ mk_ mx_ (x3) (x4) (x29)) else if x5 < 0 ∨ 12 ≤ (x5).toNatClampNeg then none else zl ((x3 ^^^ (mk_ (x5).toNatClampNeg))) fun (x31 : Int32) => if x5 < 0 ∨ 12 ≤ (x5).toNatClampNeg then none else zl ((x4 ^^^ (mx_ (x5).toNatClampNeg))) fun (x33 : Int32) => zl (x5 + 1) fun (x34 : Int32) => (s_X0_takeIn_b8  n8 gB_ mk_ mx_ (x31) (x33) (x34)))))
def s_X0_takeIn (gB : zF) (mk : zF) (mx : zF) (p1 : Int32) (p2 : Int32) : Option (Int32 × (zF) × (zF) × (zF)) := (s_X0_takeIn_b8  13 gB mk mx (p1) (p2) (0))
abbrev rm_X0_takeIn : Room := { frames := 2, cells := 0, slots := 0, locals := 42 }
set_option maxHeartbeats 4000000 in
set_option maxRecDepth 100000 in
theorem c_X0_takeIn (l : Launch) (dD : va_G) (cI cA : ClassId) (q : Nat → Nat) (gB : zF) (mk : zF) (mx : zF) (p1 : Int32) (p2 : Int32) (rv : Int32) (r_gB : zF) (r_mk : zF) (r_mx : zF) (hsp : s_X0_takeIn gB mk mx p1 p2 = some (rv, r_gB, r_mk, r_mx)) : zMi l yX0_takeIn wsX0_takeIn rm_X0_takeIn dD cI cA [.ref (q 1), .int p1, .int p2] ([zB q gB, zA cI (q 2) 12 mk, zA cI (q 3) 12 mx]) ([zB q r_gB, zA cI (q 2) 12 r_mk, zA cI (q 3) 12 r_mx]) rv := by
  refine zMi_of (cc := cX0_takeIn) (maxL := 7) (by decide) rfl (Nat.le_of_ble_eq_true rfl) ?_
  intro p e s m args below meth c A Q ls hx hb hml hown hts hK hA hP hD hl hret
  have hown : s.vm.findClass RX0 = some m.cls := hown
  have iX0 : ∀ w ∈ wsX00, w ∈ wsX0_takeIn := by decide +kernel
  have f9 := hts (.fieldLink RX0 9 "MeshField$Basis" "masks" "[I") (by decide +kernel)
  have f15 := hts (.fieldLink RX0 15 "MeshField$Basis" "mixed" "[I") (by decide +kernel)
  have f24 := hts (.fieldLink RX0 24 "MeshField$Basis" "rank" "I") (by decide +kernel)
  have hS : va_S A s.heap s.heap [] := va_S.rf
  have hl : lv_has ls 7 [(0, .ref (q 1)), (1, .int p1), (2, .int p2)] := hl
  have K_79 : ∀ (n : Nat) (H : Heap) (locs : List Loc) (ls : Array Slot) (gB_ : zF) (mk_ : zF) (mx_ : zF) (x3 : Int32) (x4 : Int32) (x5 : Int32) (x6 : Int32), va_P dD vwCl ([zB q gB_, zA cI (q 2) 12 mk_, zA cI (q 3) 12 mx_]) H → va_D A ([zB q gB_, zA cI (q 2) 12 mk_, zA cI (q 3) 12 mx_]) → va_S A s.heap H locs → lv_has ls 7 [(0, .ref (q 1)), (3, .int x3), (4, .int x4), (5, .int x5), (6, .int x6)] → s_X0_takeIn_b79  n gB_ mk_ mx_ x3 x4 x5 x6 = some (rv, r_gB, r_mk, r_mx) → W p l e rm_X0_takeIn s m args below meth c H locs 0 0 Q (F0 m 79 ls []) := by
    intro n
    induction n with
    | zero =>
      intro H locs ls gB_ mk_ mx_ x3 x4 x5 x6 hP hD hS hl hsp
      exact absurd (show (none : Option (Int32 × (zF) × (zF) × (zF))) = some (rv, r_gB, r_mk, r_mx) from hsp) (fun h => by cases h)
    | succ n79 ih79 =>
      intro H locs ls gB_ mk_ mx_ x3 x4 x5 x6 hP hD hS hl hsp
      rw [s_X0_takeIn_b79] at hsp
      refine lv_iload hx hb dX0_takeIn_79 (lv_at hl 4 rfl) ?_
      refine lv_bipush (v := 12) hx hb dX0_takeIn_81 (by decide) ?_
      refine lv_icmp_ge (tgt := 130) hx hb dX0_takeIn_83 (by decide) (fun c5 => ?_) (fun c5 => ?_)
      · have hsp := z_t c5 hsp
        refine lv_aload_n hx hb dX0_takeIn_130 rfl (lv_at hl 0 rfl) ?_
        refine va_get (D := dD) (ci := 0) (v := .ref (q 2)) (C := RX0) (T := TX0) (N := 3) hx hb hts iX0 hown hK.1 hP 0 rfl rfl 0 (by decide) f9 (fun _ h9 => h9) rfl dX0_takeIn_131 ?_
        refine lv_iload hx hb dX0_takeIn_134 (lv_at hl 3 rfl) ?_
        refine lv_iload_n hx hb dX0_takeIn_136 rfl (lv_at hl 1 rfl) ?_
        obtain ⟨h6, hsp⟩ := z_in hsp
        refine va_iast hx hb hK.1 hP hD hS 1 0 rfl rfl h6 dX0_takeIn_137 (fun H locs hP hD hS => ?_)
        obtain ⟨mk7, emk7, hsp⟩ := z_lt hsp
        have hP : va_P dD vwCl ([zB q gB_, zA cI (q 2) 12 mk7, zA cI (q 3) 12 mx_]) H := by rw [emk7]; exact hP
        have hD : va_D A ([zB q gB_, zA cI (q 2) 12 mk7, zA cI (q 3) 12 mx_]) := by rw [emk7]; exact hD
        refine lv_aload_n hx hb dX0_takeIn_138 rfl (lv_at hl 0 rfl) ?_
        refine va_get (D := dD) (ci := 0) (v := .ref (q 3)) (C := RX0) (T := TX0) (N := 3) hx hb hts iX0 hown hK.1 hP 0 rfl rfl 1 (by decide) f15 (fun _ h9 => h9) rfl dX0_takeIn_139 ?_
        refine lv_iload hx hb dX0_takeIn_142 (lv_at hl 3 rfl) ?_
        refine lv_iload hx hb dX0_takeIn_144 (lv_at hl 2 rfl) ?_
        obtain ⟨h8, hsp⟩ := z_in hsp
        refine va_iast hx hb hK.1 hP hD hS 2 0 rfl rfl h8 dX0_takeIn_146 (fun H locs hP hD hS => ?_)
        obtain ⟨mx9, emx9, hsp⟩ := z_lt hsp
        have hP : va_P dD vwCl ([zB q gB_, zA cI (q 2) 12 mk7, zA cI (q 3) 12 mx9]) H := by rw [emx9]; exact hP
        have hD : va_D A ([zB q gB_, zA cI (q 2) 12 mk7, zA cI (q 3) 12 mx9]) := by rw [emx9]; exact hD
        refine lv_aload_n hx hb dX0_takeIn_147 rfl (lv_at hl 0 rfl) ?_
        refine lv_dup hx hb dX0_takeIn_148 rfl ?_
        refine va_get (D := dD) (ci := 0) (v := .int (gB_ 2)) (C := RX0) (T := TX0) (N := 3) hx hb hts iX0 hown hK.1 hP 0 rfl rfl 2 (by decide) f24 (fun _ h9 => h9) rfl dX0_takeIn_149 ?_
        refine lv_iconst (v := 1) hx hb dX0_takeIn_152 (by decide) ?_
        refine lv_iadd hx hb dX0_takeIn_153 ?_
        refine va_put (D := dD) (ci := 0) (v := .int ((gB_ 2) + 1)) (ty := .int) (C := RX0) (T := TX0) (N := 3) hx hb hts iX0 tyX0 tyX0_ok nmX0 hown hK.1 hP hD hS 0 rfl rfl 2 (by decide) f24 (fun _ h9 => h9) rfl (by decide +kernel) rfl rfl (Nat.le_of_ble_eq_true rfl) dX0_takeIn_154 (fun H locs hP hD hS => ?_)
        obtain ⟨gB10, egB10, hsp⟩ := z_lt hsp
        have hP : va_P dD vwCl ([zB q gB10, zA cI (q 2) 12 mk7, zA cI (q 3) 12 mx9]) H := by rw [egB10]; exact hP
        have hD : va_D A ([zB q gB10, zA cI (q 2) 12 mk7, zA cI (q 3) 12 mx9]) := by rw [egB10]; exact hD
        refine lv_iconst (v := 1) hx hb dX0_takeIn_157 (by decide) ?_
        obtain ⟨rfl, rfl, rfl, rfl⟩ := z_i4 hsp
        exact hret _ _ ls 158 dX0_takeIn_158 rfl hP hD hS
      · have hsp := z_f c5 hsp
        refine lv_aload_n hx hb dX0_takeIn_86 rfl (lv_at hl 0 rfl) ?_
        refine va_get (D := dD) (ci := 0) (v := .ref (q 2)) (C := RX0) (T := TX0) (N := 3) hx hb hts iX0 hown hK.1 hP 0 rfl rfl 0 (by decide) f9 (fun _ h9 => h9) rfl dX0_takeIn_87 ?_
        refine lv_iload hx hb dX0_takeIn_90 (lv_at hl 4 rfl) ?_
        obtain ⟨h11, hsp⟩ := z_in hsp
        refine va_iald hx hb hK.1 hP 1 0 rfl rfl h11 dX0_takeIn_92 ?_
        refine lv_iload hx hb dX0_takeIn_93 (lv_at hl 3 rfl) ?_
        obtain ⟨v12, hc13, hsp⟩ := z_b1 hsp
        refine z_callSi ⟨hx, hb, hml, hown, hts⟩ hK (c_X0_has l dD cI cA ((mk_ (x6).toNatClampNeg)) (x5) v12 hc13) (va_cwS 2 hts gX0_takeIn_X0_has rfl rfl rfl (by decide +kernel) ⟨Nat.le_of_ble_eq_true rfl, Nat.le_of_ble_eq_true rfl⟩) (zJ.of (wc := []) (wc1 := []) (wr := [zB q gB_, zA cI (q 2) 12 mk_, zA cI (q 3) 12 mx_]) (w2 := [zB q gB_, zA cI (q 2) 12 mk_, zA cI (q 3) 12 mx_]) hP hD hS hA [] [0, 1, 2] [0, 1, 2] rfl rfl rfl rfl rfl rfl rfl) hS rfl hl.1 rfl (Nat.le_of_ble_eq_true rfl) dX0_takeIn_95 ⟨Nat.zero_le _, Nat.zero_le _⟩ (fun H locs hP hD hS => ?_)
        refine lv_if_eq (tgt := 124) hx hb dX0_takeIn_98 (by decide) (fun c14 => ?_) (fun c14 => ?_)
        · have hsp := z_t c14 hsp
          obtain ⟨x15, ex15, hsp⟩ := z_lt hsp
          refine lv_iinc (v := x15) (lv' := [(6, .int x15), (0, .ref (q 1)), (3, .int x3), (4, .int x4), (5, .int x5)]) hx hb dX0_takeIn_124 hl (k := 4) rfl (by rw [ex15]; rfl) (by decide) rfl (fun ls hl => ?_)
          refine lv_goto (tgt := 79) hx hb dX0_takeIn_127 (by decide) ?_
          exact ih79 _ _ ls gB_ mk_ mx_ (x3) (x4) (x5) (x15) hP hD hS (lv_sub hl [1, 2, 3, 4, 0] rfl) hsp
        · have hsp := z_f c14 hsp
          refine lv_aload_n hx hb dX0_takeIn_101 rfl (lv_at hl 0 rfl) ?_
          refine va_get (D := dD) (ci := 0) (v := .ref (q 2)) (C := RX0) (T := TX0) (N := 3) hx hb hts iX0 hown hK.1 hP 0 rfl rfl 0 (by decide) f9 (fun _ h9 => h9) rfl dX0_takeIn_102 ?_
          refine lv_iload hx hb dX0_takeIn_105 (lv_at hl 4 rfl) ?_
          refine lv_dup2_11 hx hb dX0_takeIn_107 rfl rfl ?_
          obtain ⟨h16, hsp⟩ := z_in hsp
          refine va_iald hx hb hK.1 hP 1 0 rfl rfl h16 dX0_takeIn_108 ?_
          refine lv_iload_n hx hb dX0_takeIn_109 rfl (lv_at hl 1 rfl) ?_
          refine lv_ixor hx hb dX0_takeIn_110 ?_
          obtain ⟨h17, hsp⟩ := z_in hsp
          refine va_iast hx hb hK.1 hP hD hS 1 0 rfl rfl h17 dX0_takeIn_111 (fun H locs hP hD hS => ?_)
          obtain ⟨mk18, emk18, hsp⟩ := z_lt hsp
          have hP : va_P dD vwCl ([zB q gB_, zA cI (q 2) 12 mk18, zA cI (q 3) 12 mx_]) H := by rw [emk18]; exact hP
          have hD : va_D A ([zB q gB_, zA cI (q 2) 12 mk18, zA cI (q 3) 12 mx_]) := by rw [emk18]; exact hD
          refine lv_aload_n hx hb dX0_takeIn_112 rfl (lv_at hl 0 rfl) ?_
          refine va_get (D := dD) (ci := 0) (v := .ref (q 3)) (C := RX0) (T := TX0) (N := 3) hx hb hts iX0 hown hK.1 hP 0 rfl rfl 1 (by decide) f15 (fun _ h9 => h9) rfl dX0_takeIn_113 ?_
          refine lv_iload hx hb dX0_takeIn_116 (lv_at hl 4 rfl) ?_
          refine lv_dup2_11 hx hb dX0_takeIn_118 rfl rfl ?_
          obtain ⟨h19, hsp⟩ := z_in hsp
          refine va_iald hx hb hK.1 hP 2 0 rfl rfl h19 dX0_takeIn_119 ?_
          refine lv_iload hx hb dX0_takeIn_120 (lv_at hl 2 rfl) ?_
          refine lv_ixor hx hb dX0_takeIn_122 ?_
          obtain ⟨h20, hsp⟩ := z_in hsp
          refine va_iast hx hb hK.1 hP hD hS 2 0 rfl rfl h20 dX0_takeIn_123 (fun H locs hP hD hS => ?_)
          obtain ⟨mx21, emx21, hsp⟩ := z_lt hsp
          have hP : va_P dD vwCl ([zB q gB_, zA cI (q 2) 12 mk18, zA cI (q 3) 12 mx21]) H := by rw [emx21]; exact hP
          have hD : va_D A ([zB q gB_, zA cI (q 2) 12 mk18, zA cI (q 3) 12 mx21]) := by rw [emx21]; exact hD
          obtain ⟨x22, ex22, hsp⟩ := z_lt hsp
          refine lv_iinc (v := x22) (lv' := [(6, .int x22), (0, .ref (q 1)), (3, .int x3), (4, .int x4), (5, .int x5)]) hx hb dX0_takeIn_124 hl (k := 4) rfl (by rw [ex22]; rfl) (by decide) rfl (fun ls hl => ?_)
          refine lv_goto (tgt := 79) hx hb dX0_takeIn_127 (by decide) ?_
          exact ih79 _ _ ls gB_ mk18 mx21 (x3) (x4) (x5) (x22) hP hD hS (lv_sub hl [1, 2, 3, 4, 0] rfl) hsp
  have K_8 : ∀ (n : Nat) (H : Heap) (locs : List Loc) (ls : Array Slot) (gB_ : zF) (mk_ : zF) (mx_ : zF) (x3 : Int32) (x4 : Int32) (x5 : Int32), va_P dD vwCl ([zB q gB_, zA cI (q 2) 12 mk_, zA cI (q 3) 12 mx_]) H → va_D A ([zB q gB_, zA cI (q 2) 12 mk_, zA cI (q 3) 12 mx_]) → va_S A s.heap H locs → lv_has ls 7 [(0, .ref (q 1)), (3, .int x3), (4, .int x4), (5, .int x5)] → s_X0_takeIn_b8  n gB_ mk_ mx_ x3 x4 x5 = some (rv, r_gB, r_mk, r_mx) → W p l e rm_X0_takeIn s m args below meth c H locs 0 0 Q (F0 m 8 ls []) := by
    intro n
    induction n with
    | zero =>
      intro H locs ls gB_ mk_ mx_ x3 x4 x5 hP hD hS hl hsp
      exact absurd (show (none : Option (Int32 × (zF) × (zF) × (zF))) = some (rv, r_gB, r_mk, r_mx) from hsp) (fun h => by cases h)
    | succ n8 ih8 =>
      intro H locs ls gB_ mk_ mx_ x3 x4 x5 hP hD hS hl hsp
      rw [s_X0_takeIn_b8] at hsp
      refine lv_iload hx hb dX0_takeIn_8 (lv_at hl 3 rfl) ?_
      refine lv_bipush (v := 12) hx hb dX0_takeIn_10 (by decide) ?_
      refine lv_icmp_ge (tgt := 62) hx hb dX0_takeIn_12 (by decide) (fun c1 => ?_) (fun c1 => ?_)
      · have hsp := z_t c1 hsp
        refine lv_iload_n hx hb dX0_takeIn_62 rfl (lv_at hl 1 rfl) ?_
        obtain ⟨v2, hc3, hsp⟩ := z_b1 hsp
        refine z_callSi ⟨hx, hb, hml, hown, hts⟩ hK (c_X0_headOf l dD cI cA (x3) v2 hc3) (va_cwS 1 hts gX0_takeIn_X0_headOf rfl rfl rfl (by decide +kernel) ⟨Nat.le_of_ble_eq_true rfl, Nat.le_of_ble_eq_true rfl⟩) (zJ.of (wc := []) (wc1 := []) (wr := [zB q gB_, zA cI (q 2) 12 mk_, zA cI (q 3) 12 mx_]) (w2 := [zB q gB_, zA cI (q 2) 12 mk_, zA cI (q 3) 12 mx_]) hP hD hS hA [] [0, 1, 2] [0, 1, 2] rfl rfl rfl rfl rfl rfl rfl) hS rfl hl.1 rfl (Nat.le_of_ble_eq_true rfl) dX0_takeIn_63 ⟨Nat.zero_le _, Nat.zero_le _⟩ (fun H locs hP hD hS => ?_)
        refine lv_istore (lv' := [(5, .int v2), (0, .ref (q 1)), (3, .int x3), (4, .int x4)]) hx hb dX0_takeIn_66 hl (by decide) rfl (fun ls hl => ?_)
        refine lv_iload hx hb dX0_takeIn_68 (lv_at hl 0 rfl) ?_
        refine lv_iconst (v := (-1)) hx hb dX0_takeIn_70 (by decide) ?_
        refine lv_icmp_ne (tgt := 76) hx hb dX0_takeIn_71 (by decide) (fun c4 => ?_) (fun c4 => ?_)
        · have hsp := z_f c4 hsp
          refine lv_iconst (v := 0) hx hb dX0_takeIn_76 (by decide) ?_
          refine lv_istore (lv' := [(6, .int 0), (5, .int v2), (0, .ref (q 1)), (3, .int x3), (4, .int x4)]) hx hb dX0_takeIn_77 hl (by decide) rfl (fun ls hl => ?_)
          exact K_79 13 _ _ ls gB_ mk_ mx_ (x3) (x4) (v2) (0) hP hD hS (lv_sub hl [2, 3, 4, 1, 0] rfl) hsp
        · have hsp := z_t c4 hsp
          refine lv_iconst (v := 0) hx hb dX0_takeIn_74 (by decide) ?_
          obtain ⟨rfl, rfl, rfl, rfl⟩ := z_i4 hsp
          exact hret _ _ ls 75 dX0_takeIn_75 rfl hP hD hS
      · have hsp := z_f c1 hsp
        refine lv_aload_n hx hb dX0_takeIn_15 rfl (lv_at hl 0 rfl) ?_
        refine va_get (D := dD) (ci := 0) (v := .ref (q 2)) (C := RX0) (T := TX0) (N := 3) hx hb hts iX0 hown hK.1 hP 0 rfl rfl 0 (by decide) f9 (fun _ h9 => h9) rfl dX0_takeIn_16 ?_
        refine lv_iload hx hb dX0_takeIn_19 (lv_at hl 3 rfl) ?_
        obtain ⟨h23, hsp⟩ := z_in hsp
        refine va_iald hx hb hK.1 hP 1 0 rfl rfl h23 dX0_takeIn_21 ?_
        refine lv_if_eq (tgt := 56) hx hb dX0_takeIn_22 (by decide) (fun c24 => ?_) (fun c24 => ?_)
        · have hsp := z_t c24 hsp
          obtain ⟨x25, ex25, hsp⟩ := z_lt hsp
          refine lv_iinc (v := x25) (lv' := [(5, .int x25), (0, .ref (q 1)), (3, .int x3), (4, .int x4)]) hx hb dX0_takeIn_56 hl (k := 3) rfl (by rw [ex25]; rfl) (by decide) rfl (fun ls hl => ?_)
          refine lv_goto (tgt := 8) hx hb dX0_takeIn_59 (by decide) ?_
          exact ih8 _ _ ls gB_ mk_ mx_ (x3) (x4) (x25) hP hD hS (lv_sub hl [1, 2, 3, 0] rfl) hsp
        · have hsp := z_f c24 hsp
          refine lv_iload_n hx hb dX0_takeIn_25 rfl (lv_at hl 1 rfl) ?_
          refine lv_iload hx hb dX0_takeIn_26 (lv_at hl 3 rfl) ?_
          obtain ⟨v26, hc27, hsp⟩ := z_b1 hsp
          refine z_callSi ⟨hx, hb, hml, hown, hts⟩ hK (c_X0_has l dD cI cA (x3) (x5) v26 hc27) (va_cwS 2 hts gX0_takeIn_X0_has rfl rfl rfl (by decide +kernel) ⟨Nat.le_of_ble_eq_true rfl, Nat.le_of_ble_eq_true rfl⟩) (zJ.of (wc := []) (wc1 := []) (wr := [zB q gB_, zA cI (q 2) 12 mk_, zA cI (q 3) 12 mx_]) (w2 := [zB q gB_, zA cI (q 2) 12 mk_, zA cI (q 3) 12 mx_]) hP hD hS hA [] [0, 1, 2] [0, 1, 2] rfl rfl rfl rfl rfl rfl rfl) hS rfl hl.1 rfl (Nat.le_of_ble_eq_true rfl) dX0_takeIn_28 ⟨Nat.zero_le _, Nat.zero_le _⟩ (fun H locs hP hD hS => ?_)
          refine lv_if_eq (tgt := 56) hx hb dX0_takeIn_31 (by decide) (fun c28 => ?_) (fun c28 => ?_)
          · have hsp := z_t c28 hsp
            obtain ⟨x29, ex29, hsp⟩ := z_lt hsp
            refine lv_iinc (v := x29) (lv' := [(5, .int x29), (0, .ref (q 1)), (3, .int x3), (4, .int x4)]) hx hb dX0_takeIn_56 hl (k := 3) rfl (by rw [ex29]; rfl) (by decide) rfl (fun ls hl => ?_)
            refine lv_goto (tgt := 8) hx hb dX0_takeIn_59 (by decide) ?_
            exact ih8 _ _ ls gB_ mk_ mx_ (x3) (x4) (x29) hP hD hS (lv_sub hl [1, 2, 3, 0] rfl) hsp
          · have hsp := z_f c28 hsp
            refine lv_iload_n hx hb dX0_takeIn_34 rfl (lv_at hl 1 rfl) ?_
            refine lv_aload_n hx hb dX0_takeIn_35 rfl (lv_at hl 0 rfl) ?_
            refine va_get (D := dD) (ci := 0) (v := .ref (q 2)) (C := RX0) (T := TX0) (N := 3) hx hb hts iX0 hown hK.1 hP 0 rfl rfl 0 (by decide) f9 (fun _ h9 => h9) rfl dX0_takeIn_36 ?_
            refine lv_iload hx hb dX0_takeIn_39 (lv_at hl 3 rfl) ?_
            obtain ⟨h30, hsp⟩ := z_in hsp
            refine va_iald hx hb hK.1 hP 1 0 rfl rfl h30 dX0_takeIn_41 ?_
            refine lv_ixor hx hb dX0_takeIn_42 ?_
            obtain ⟨x31, ex31, hsp⟩ := z_lt hsp
            refine z_top ex31 ?_
            refine lv_istore_n (lv' := [(3, .int x31), (0, .ref (q 1)), (4, .int x4), (5, .int x5)]) hx hb dX0_takeIn_43 rfl hl (by decide) rfl (fun ls hl => ?_)
            refine lv_iload hx hb dX0_takeIn_44 (lv_at hl 2 rfl) ?_
            refine lv_aload_n hx hb dX0_takeIn_46 rfl (lv_at hl 1 rfl) ?_
            refine va_get (D := dD) (ci := 0) (v := .ref (q 3)) (C := RX0) (T := TX0) (N := 3) hx hb hts iX0 hown hK.1 hP 0 rfl rfl 1 (by decide) f15 (fun _ h9 => h9) rfl dX0_takeIn_47 ?_
            refine lv_iload hx hb dX0_takeIn_50 (lv_at hl 3 rfl) ?_
            obtain ⟨h32, hsp⟩ := z_in hsp
            refine va_iald hx hb hK.1 hP 2 0 rfl rfl h32 dX0_takeIn_52 ?_
            refine lv_ixor hx hb dX0_takeIn_53 ?_
            obtain ⟨x33, ex33, hsp⟩ := z_lt hsp
            refine z_top ex33 ?_
            refine lv_istore (lv' := [(4, .int x33), (3, .int x31), (0, .ref (q 1)), (5, .int x5)]) hx hb dX0_takeIn_54 hl (by decide) rfl (fun ls hl => ?_)
            obtain ⟨x34, ex34, hsp⟩ := z_lt hsp
            refine lv_iinc (v := x34) (lv' := [(5, .int x34), (4, .int x33), (3, .int x31), (0, .ref (q 1))]) hx hb dX0_takeIn_56 hl (k := 3) rfl (by rw [ex34]; rfl) (by decide) rfl (fun ls hl => ?_)
            refine lv_goto (tgt := 8) hx hb dX0_takeIn_59 (by decide) ?_
            exact ih8 _ _ ls gB_ mk_ mx_ (x31) (x33) (x34) hP hD hS (lv_sub hl [3, 2, 1, 0] rfl) hsp
  unfold s_X0_takeIn at hsp
  refine lv_iload_n hx hb dX0_takeIn_0 rfl (lv_at hl 1 rfl) ?_
  refine lv_istore_n (lv' := [(3, .int p1), (0, .ref (q 1)), (1, .int p1), (2, .int p2)]) hx hb dX0_takeIn_1 rfl hl (by decide) rfl (fun ls hl => ?_)
  refine lv_iload_n hx hb dX0_takeIn_2 rfl (lv_at hl 3 rfl) ?_
  refine lv_istore (lv' := [(4, .int p2), (3, .int p1), (0, .ref (q 1)), (1, .int p1), (2, .int p2)]) hx hb dX0_takeIn_3 hl (by decide) rfl (fun ls hl => ?_)
  refine lv_iconst (v := 0) hx hb dX0_takeIn_5 (by decide) ?_
  refine lv_istore (lv' := [(5, .int 0), (4, .int p2), (3, .int p1), (0, .ref (q 1)), (1, .int p1), (2, .int p2)]) hx hb dX0_takeIn_6 hl (by decide) rfl (fun ls hl => ?_)
  exact K_8 13 _ _ ls gB mk mx (p1) (p2) (0) hP hD hS (lv_sub hl [3, 2, 1, 0] rfl) hsp
def s_X0_tearLeast_b2  : Nat → (zF) → (zF) → (zF) → (Int32) → Option ((zF) × (zF) × (zF))
  | 0, _, _, _, _ => none
  | n2 + 1, gB_, mk_, mx_, x1 => (if 12 ≤ x1 then some (gB_, mk_, mx_) else if x1 < 0 ∨ 12 ≤ (x1).toNatClampNeg then none else (if (mk_ (x1).toNatClampNeg) = 0 then zl (x1 + 1) fun (x4 : Int32) => (s_X0_tearLeast_b2  n2 gB_ mk_ mx_ (x4)) else if x1 < 0 ∨ 12 ≤ (x1).toNatClampNeg then none else zl (upd mk_ (x1).toNatClampNeg (0)) fun (mk6 : zF) => if x1 < 0 ∨ 12 ≤ (x1).toNatClampNeg then none else zl (upd mx_ (x1).toNatClampNeg (0)) fun (mx8 : zF) => zl (va_up gB_ 2 (((gB_ 2) - 1))) fun (gB9 : zF) => some (gB9, mk6, mx8)))
def s_X0_tearLeast (gB : zF) (mk : zF) (mx : zF) : Option ((zF) × (zF) × (zF)) := (s_X0_tearLeast_b2  13 gB mk mx (0))
abbrev rm_X0_tearLeast : Room := { frames := 0, cells := 0, slots := 0, locals := 0 }
set_option maxHeartbeats 4000000 in
set_option maxRecDepth 100000 in
theorem c_X0_tearLeast (l : Launch) (dD : va_G) (cI cA : ClassId) (q : Nat → Nat) (gB : zF) (mk : zF) (mx : zF) (r_gB : zF) (r_mk : zF) (r_mx : zF) (hsp : s_X0_tearLeast gB mk mx = some (r_gB, r_mk, r_mx)) : zMv l yX0_tearLeast wsX0_tearLeast rm_X0_tearLeast dD cI cA [.ref (q 1)] ([zB q gB, zA cI (q 2) 12 mk, zA cI (q 3) 12 mx]) ([zB q r_gB, zA cI (q 2) 12 r_mk, zA cI (q 3) 12 r_mx]) := by
  refine zMv_of (cc := cX0_tearLeast) (maxL := 2) (by decide) rfl (Nat.le_of_ble_eq_true rfl) ?_
  intro p e s m args below meth c A Q ls hx hb hml hown hts hK hA hP hD hl hret
  have hown : s.vm.findClass RX0 = some m.cls := hown
  have iX0 : ∀ w ∈ wsX00, w ∈ wsX0_tearLeast := by decide +kernel
  have f9 := hts (.fieldLink RX0 9 "MeshField$Basis" "masks" "[I") (by decide +kernel)
  have f15 := hts (.fieldLink RX0 15 "MeshField$Basis" "mixed" "[I") (by decide +kernel)
  have f24 := hts (.fieldLink RX0 24 "MeshField$Basis" "rank" "I") (by decide +kernel)
  have hS : va_S A s.heap s.heap [] := va_S.rf
  have hl : lv_has ls 2 [(0, .ref (q 1))] := hl
  have K_2 : ∀ (n : Nat) (H : Heap) (locs : List Loc) (ls : Array Slot) (gB_ : zF) (mk_ : zF) (mx_ : zF) (x1 : Int32), va_P dD vwCl ([zB q gB_, zA cI (q 2) 12 mk_, zA cI (q 3) 12 mx_]) H → va_D A ([zB q gB_, zA cI (q 2) 12 mk_, zA cI (q 3) 12 mx_]) → va_S A s.heap H locs → lv_has ls 2 [(0, .ref (q 1)), (1, .int x1)] → s_X0_tearLeast_b2  n gB_ mk_ mx_ x1 = some (r_gB, r_mk, r_mx) → W p l e rm_X0_tearLeast s m args below meth c H locs 0 0 Q (F0 m 2 ls []) := by
    intro n
    induction n with
    | zero =>
      intro H locs ls gB_ mk_ mx_ x1 hP hD hS hl hsp
      exact absurd (show (none : Option ((zF) × (zF) × (zF))) = some (r_gB, r_mk, r_mx) from hsp) (fun h => by cases h)
    | succ n2 ih2 =>
      intro H locs ls gB_ mk_ mx_ x1 hP hD hS hl hsp
      rw [s_X0_tearLeast_b2] at hsp
      refine lv_iload_n hx hb dX0_tearLeast_2 rfl (lv_at hl 1 rfl) ?_
      refine lv_bipush (v := 12) hx hb dX0_tearLeast_3 (by decide) ?_
      refine lv_icmp_ge (tgt := 48) hx hb dX0_tearLeast_5 (by decide) (fun c1 => ?_) (fun c1 => ?_)
      · have hsp := z_t c1 hsp
        obtain ⟨rfl, rfl, rfl⟩ := z_i3 hsp
        exact hret _ _ ls 48 dX0_tearLeast_48 hP hD hS
      · have hsp := z_f c1 hsp
        refine lv_aload_n hx hb dX0_tearLeast_8 rfl (lv_at hl 0 rfl) ?_
        refine va_get (D := dD) (ci := 0) (v := .ref (q 2)) (C := RX0) (T := TX0) (N := 3) hx hb hts iX0 hown hK.1 hP 0 rfl rfl 0 (by decide) f9 (fun _ h9 => h9) rfl dX0_tearLeast_9 ?_
        refine lv_iload_n hx hb dX0_tearLeast_12 rfl (lv_at hl 1 rfl) ?_
        obtain ⟨h2, hsp⟩ := z_in hsp
        refine va_iald hx hb hK.1 hP 1 0 rfl rfl h2 dX0_tearLeast_13 ?_
        refine lv_if_eq (tgt := 42) hx hb dX0_tearLeast_14 (by decide) (fun c3 => ?_) (fun c3 => ?_)
        · have hsp := z_t c3 hsp
          obtain ⟨x4, ex4, hsp⟩ := z_lt hsp
          refine lv_iinc (v := x4) (lv' := [(1, .int x4), (0, .ref (q 1))]) hx hb dX0_tearLeast_42 hl (k := 1) rfl (by rw [ex4]; rfl) (by decide) rfl (fun ls hl => ?_)
          refine lv_goto (tgt := 2) hx hb dX0_tearLeast_45 (by decide) ?_
          exact ih2 _ _ ls gB_ mk_ mx_ (x4) hP hD hS (lv_sub hl [1, 0] rfl) hsp
        · have hsp := z_f c3 hsp
          refine lv_aload_n hx hb dX0_tearLeast_17 rfl (lv_at hl 0 rfl) ?_
          refine va_get (D := dD) (ci := 0) (v := .ref (q 2)) (C := RX0) (T := TX0) (N := 3) hx hb hts iX0 hown hK.1 hP 0 rfl rfl 0 (by decide) f9 (fun _ h9 => h9) rfl dX0_tearLeast_18 ?_
          refine lv_iload_n hx hb dX0_tearLeast_21 rfl (lv_at hl 1 rfl) ?_
          refine lv_iconst (v := 0) hx hb dX0_tearLeast_22 (by decide) ?_
          obtain ⟨h5, hsp⟩ := z_in hsp
          refine va_iast hx hb hK.1 hP hD hS 1 0 rfl rfl h5 dX0_tearLeast_23 (fun H locs hP hD hS => ?_)
          obtain ⟨mk6, emk6, hsp⟩ := z_lt hsp
          have hP : va_P dD vwCl ([zB q gB_, zA cI (q 2) 12 mk6, zA cI (q 3) 12 mx_]) H := by rw [emk6]; exact hP
          have hD : va_D A ([zB q gB_, zA cI (q 2) 12 mk6, zA cI (q 3) 12 mx_]) := by rw [emk6]; exact hD
          refine lv_aload_n hx hb dX0_tearLeast_24 rfl (lv_at hl 0 rfl) ?_
          refine va_get (D := dD) (ci := 0) (v := .ref (q 3)) (C := RX0) (T := TX0) (N := 3) hx hb hts iX0 hown hK.1 hP 0 rfl rfl 1 (by decide) f15 (fun _ h9 => h9) rfl dX0_tearLeast_25 ?_
          refine lv_iload_n hx hb dX0_tearLeast_28 rfl (lv_at hl 1 rfl) ?_
          refine lv_iconst (v := 0) hx hb dX0_tearLeast_29 (by decide) ?_
          obtain ⟨h7, hsp⟩ := z_in hsp
          refine va_iast hx hb hK.1 hP hD hS 2 0 rfl rfl h7 dX0_tearLeast_30 (fun H locs hP hD hS => ?_)
          obtain ⟨mx8, emx8, hsp⟩ := z_lt hsp
          have hP : va_P dD vwCl ([zB q gB_, zA cI (q 2) 12 mk6, zA cI (q 3) 12 mx8]) H := by rw [emx8]; exact hP
          have hD : va_D A ([zB q gB_, zA cI (q 2) 12 mk6, zA cI (q 3) 12 mx8]) := by rw [emx8]; exact hD
          refine lv_aload_n hx hb dX0_tearLeast_31 rfl (lv_at hl 0 rfl) ?_
          refine lv_dup hx hb dX0_tearLeast_32 rfl ?_
          refine va_get (D := dD) (ci := 0) (v := .int (gB_ 2)) (C := RX0) (T := TX0) (N := 3) hx hb hts iX0 hown hK.1 hP 0 rfl rfl 2 (by decide) f24 (fun _ h9 => h9) rfl dX0_tearLeast_33 ?_
          refine lv_iconst (v := 1) hx hb dX0_tearLeast_36 (by decide) ?_
          refine lv_isub hx hb dX0_tearLeast_37 ?_
          refine va_put (D := dD) (ci := 0) (v := .int ((gB_ 2) - 1)) (ty := .int) (C := RX0) (T := TX0) (N := 3) hx hb hts iX0 tyX0 tyX0_ok nmX0 hown hK.1 hP hD hS 0 rfl rfl 2 (by decide) f24 (fun _ h9 => h9) rfl (by decide +kernel) rfl rfl (Nat.le_of_ble_eq_true rfl) dX0_tearLeast_38 (fun H locs hP hD hS => ?_)
          obtain ⟨gB9, egB9, hsp⟩ := z_lt hsp
          have hP : va_P dD vwCl ([zB q gB9, zA cI (q 2) 12 mk6, zA cI (q 3) 12 mx8]) H := by rw [egB9]; exact hP
          have hD : va_D A ([zB q gB9, zA cI (q 2) 12 mk6, zA cI (q 3) 12 mx8]) := by rw [egB9]; exact hD
          obtain ⟨rfl, rfl, rfl⟩ := z_i3 hsp
          exact hret _ _ ls 41 dX0_tearLeast_41 hP hD hS
  unfold s_X0_tearLeast at hsp
  refine lv_iconst (v := 0) hx hb dX0_tearLeast_0 (by decide) ?_
  refine lv_istore_n (lv' := [(1, .int 0), (0, .ref (q 1))]) hx hb dX0_tearLeast_1 rfl hl (by decide) rfl (fun ls hl => ?_)
  exact K_2 13 _ _ ls gB mk mx (0) hP hD hS (lv_sub hl [1, 0] rfl) hsp
def s_X0_headOfNth_b5 (gB : zF) (mk : zF) : Nat → (Int32) → (Int32) → (Int32) → Option Int32
  | 0, _, _, _ => none
  | n5 + 1, x1, x2, x3 => (if x3 < 0 then some ((-1)) else if x3 < 0 ∨ 12 ≤ (x3).toNatClampNeg then none else (if (mk (x3).toNatClampNeg) = 0 then zl (x3 + (-1)) fun (x4 : Int32) => (s_X0_headOfNth_b5 gB mk n5 (x1) (x2) (x4)) else (if x2 = x1 then some (x3) else zl (x2 + 1) fun (x6 : Int32) => zl (x3 + (-1)) fun (x7 : Int32) => (s_X0_headOfNth_b5 gB mk n5 (x1) (x6) (x7)))))
def s_X0_headOfNth (gB : zF) (mk : zF) (p1 : Int32) : Option Int32 := (s_X0_headOfNth_b5 gB mk 13 (p1) (0) (11))
abbrev rm_X0_headOfNth : Room := { frames := 0, cells := 0, slots := 0, locals := 0 }
set_option maxHeartbeats 4000000 in
set_option maxRecDepth 100000 in
theorem c_X0_headOfNth (l : Launch) (dD : va_G) (cI cA : ClassId) (q : Nat → Nat) (gB : zF) (mk : zF) (p1 : Int32) (rv : Int32) (hsp : s_X0_headOfNth gB mk p1 = some rv) : zMi l yX0_headOfNth wsX0_headOfNth rm_X0_headOfNth dD cI cA [.ref (q 1), .int p1] ([zB q gB, zA cI (q 2) 12 mk]) ([zB q gB, zA cI (q 2) 12 mk]) rv := by
  refine zMi_of (cc := cX0_headOfNth) (maxL := 4) (by decide) rfl (Nat.le_of_ble_eq_true rfl) ?_
  intro p e s m args below meth c A Q ls hx hb hml hown hts hK hA hP hD hl hret
  have hown : s.vm.findClass RX0 = some m.cls := hown
  have iX0 : ∀ w ∈ wsX00, w ∈ wsX0_headOfNth := by decide +kernel
  have f9 := hts (.fieldLink RX0 9 "MeshField$Basis" "masks" "[I") (by decide +kernel)
  have hS : va_S A s.heap s.heap [] := va_S.rf
  have hl : lv_has ls 4 [(0, .ref (q 1)), (1, .int p1)] := hl
  have K_5 : ∀ (n : Nat) (H : Heap) (locs : List Loc) (ls : Array Slot) (x1 : Int32) (x2 : Int32) (x3 : Int32), va_P dD vwCl ([zB q gB, zA cI (q 2) 12 mk]) H → va_D A ([zB q gB, zA cI (q 2) 12 mk]) → va_S A s.heap H locs → lv_has ls 4 [(0, .ref (q 1)), (1, .int x1), (2, .int x2), (3, .int x3)] → s_X0_headOfNth_b5 gB mk n x1 x2 x3 = some rv → W p l e rm_X0_headOfNth s m args below meth c H locs 0 0 Q (F0 m 5 ls []) := by
    intro n
    induction n with
    | zero =>
      intro H locs ls x1 x2 x3 hP hD hS hl hsp
      exact absurd (show (none : Option Int32) = some rv from hsp) (fun h => by cases h)
    | succ n5 ih5 =>
      intro H locs ls x1 x2 x3 hP hD hS hl hsp
      rw [s_X0_headOfNth_b5] at hsp
      refine lv_iload_n hx hb dX0_headOfNth_5 rfl (lv_at hl 3 rfl) ?_
      refine lv_if_lt (tgt := 34) hx hb dX0_headOfNth_6 (by decide) (fun c1 => ?_) (fun c1 => ?_)
      · have hsp := z_t c1 hsp
        refine lv_iconst (v := (-1)) hx hb dX0_headOfNth_34 (by decide) ?_
        obtain rfl := Option.some.inj hsp
        exact hret _ _ ls 35 dX0_headOfNth_35 rfl hP hD hS
      · have hsp := z_f c1 hsp
        refine lv_aload_n hx hb dX0_headOfNth_9 rfl (lv_at hl 0 rfl) ?_
        refine va_get (D := dD) (ci := 0) (v := .ref (q 2)) (C := RX0) (T := TX0) (N := 3) hx hb hts iX0 hown hK.1 hP 0 rfl rfl 0 (by decide) f9 (fun _ h9 => h9) rfl dX0_headOfNth_10 ?_
        refine lv_iload_n hx hb dX0_headOfNth_13 rfl (lv_at hl 3 rfl) ?_
        obtain ⟨h2, hsp⟩ := z_in hsp
        refine va_iald hx hb hK.1 hP 1 0 rfl rfl h2 dX0_headOfNth_14 ?_
        refine lv_if_eq (tgt := 28) hx hb dX0_headOfNth_15 (by decide) (fun c3 => ?_) (fun c3 => ?_)
        · have hsp := z_t c3 hsp
          obtain ⟨x4, ex4, hsp⟩ := z_lt hsp
          refine lv_iinc (v := x4) (lv' := [(3, .int x4), (0, .ref (q 1)), (1, .int x1), (2, .int x2)]) hx hb dX0_headOfNth_28 hl (k := 3) rfl (by rw [ex4]; rfl) (by decide) rfl (fun ls hl => ?_)
          refine lv_goto (tgt := 5) hx hb dX0_headOfNth_31 (by decide) ?_
          exact ih5 _ _ ls (x1) (x2) (x4) hP hD hS (lv_sub hl [1, 2, 3, 0] rfl) hsp
        · have hsp := z_f c3 hsp
          refine lv_iload_n hx hb dX0_headOfNth_18 rfl (lv_at hl 2 rfl) ?_
          refine lv_iload_n hx hb dX0_headOfNth_19 rfl (lv_at hl 1 rfl) ?_
          refine lv_icmp_ne (tgt := 25) hx hb dX0_headOfNth_20 (by decide) (fun c5 => ?_) (fun c5 => ?_)
          · have hsp := z_f c5 hsp
            obtain ⟨x6, ex6, hsp⟩ := z_lt hsp
            refine lv_iinc (v := x6) (lv' := [(2, .int x6), (0, .ref (q 1)), (1, .int x1), (3, .int x3)]) hx hb dX0_headOfNth_25 hl (k := 2) rfl (by rw [ex6]; rfl) (by decide) rfl (fun ls hl => ?_)
            obtain ⟨x7, ex7, hsp⟩ := z_lt hsp
            refine lv_iinc (v := x7) (lv' := [(3, .int x7), (2, .int x6), (0, .ref (q 1)), (1, .int x1)]) hx hb dX0_headOfNth_28 hl (k := 3) rfl (by rw [ex7]; rfl) (by decide) rfl (fun ls hl => ?_)
            refine lv_goto (tgt := 5) hx hb dX0_headOfNth_31 (by decide) ?_
            exact ih5 _ _ ls (x1) (x6) (x7) hP hD hS (lv_sub hl [2, 3, 1, 0] rfl) hsp
          · have hsp := z_t c5 hsp
            refine lv_iload_n hx hb dX0_headOfNth_23 rfl (lv_at hl 3 rfl) ?_
            obtain rfl := Option.some.inj hsp
            exact hret _ _ ls 24 dX0_headOfNth_24 rfl hP hD hS
  unfold s_X0_headOfNth at hsp
  refine lv_iconst (v := 0) hx hb dX0_headOfNth_0 (by decide) ?_
  refine lv_istore_n (lv' := [(2, .int 0), (0, .ref (q 1)), (1, .int p1)]) hx hb dX0_headOfNth_1 rfl hl (by decide) rfl (fun ls hl => ?_)
  refine lv_bipush (v := 11) hx hb dX0_headOfNth_2 (by decide) ?_
  refine lv_istore_n (lv' := [(3, .int 11), (2, .int 0), (0, .ref (q 1)), (1, .int p1)]) hx hb dX0_headOfNth_4 rfl hl (by decide) rfl (fun ls hl => ?_)
  exact K_5 13 _ _ ls (p1) (0) (11) hP hD hS (lv_sub hl [2, 3, 1, 0] rfl) hsp
def s_X0_maskOfNth (gB : zF) (mk : zF) (p1 : Int32) : Option Int32 := zb1 (s_X0_headOfNth gB mk (p1)) fun (v1 : Int32) => (if v1 = (-1) then some ((-1)) else if v1 < 0 ∨ 12 ≤ (v1).toNatClampNeg then none else some ((mk (v1).toNatClampNeg)))
abbrev rm_X0_maskOfNth : Room := { frames := 1, cells := 0, slots := 0, locals := 23 }
set_option maxHeartbeats 4000000 in
set_option maxRecDepth 100000 in
theorem c_X0_maskOfNth (l : Launch) (dD : va_G) (cI cA : ClassId) (q : Nat → Nat) (gB : zF) (mk : zF) (p1 : Int32) (rv : Int32) (hsp : s_X0_maskOfNth gB mk p1 = some rv) : zMi l yX0_maskOfNth wsX0_maskOfNth rm_X0_maskOfNth dD cI cA [.ref (q 1), .int p1] ([zB q gB, zA cI (q 2) 12 mk]) ([zB q gB, zA cI (q 2) 12 mk]) rv := by
  refine zMi_of (cc := cX0_maskOfNth) (maxL := 3) (by decide) rfl (Nat.le_of_ble_eq_true rfl) ?_
  intro p e s m args below meth c A Q ls hx hb hml hown hts hK hA hP hD hl hret
  have hown : s.vm.findClass RX0 = some m.cls := hown
  have iX0 : ∀ w ∈ wsX00, w ∈ wsX0_maskOfNth := by decide +kernel
  have f9 := hts (.fieldLink RX0 9 "MeshField$Basis" "masks" "[I") (by decide +kernel)
  have hS : va_S A s.heap s.heap [] := va_S.rf
  have hl : lv_has ls 3 [(0, .ref (q 1)), (1, .int p1)] := hl
  unfold s_X0_maskOfNth at hsp
  refine lv_aload_n hx hb dX0_maskOfNth_0 rfl (lv_at hl 0 rfl) ?_
  refine lv_iload_n hx hb dX0_maskOfNth_1 rfl (lv_at hl 1 rfl) ?_
  obtain ⟨v1, hc2, hsp⟩ := z_b1 hsp
  refine z_callVi ⟨hx, hb, hml, hown, hts⟩ hK (c_X0_headOfNth l dD cI cA q gB mk (p1) v1 hc2) (cwV 1 hts gX0_maskOfNth_X0_headOfNth rfl rfl rfl (by decide +kernel) ⟨Nat.le_of_ble_eq_true rfl, Nat.le_of_ble_eq_true rfl⟩) (zJ.of (wc := [zB q gB, zA cI (q 2) 12 mk]) (wc1 := [zB q gB, zA cI (q 2) 12 mk]) (wr := []) (w2 := [zB q gB, zA cI (q 2) 12 mk]) hP hD hS hA [0, 1] [] [0, 1] rfl rfl rfl rfl rfl rfl rfl) hS 0 0 rfl rfl rfl rfl hl.1 rfl (Nat.le_of_ble_eq_true rfl) dX0_maskOfNth_2 ⟨Nat.zero_le _, Nat.zero_le _⟩ (fun H locs hP hD hS => ?_)
  refine lv_istore_n (lv' := [(2, .int v1), (0, .ref (q 1)), (1, .int p1)]) hx hb dX0_maskOfNth_5 rfl hl (by decide) rfl (fun ls hl => ?_)
  refine lv_iload_n hx hb dX0_maskOfNth_6 rfl (lv_at hl 0 rfl) ?_
  refine lv_iconst (v := (-1)) hx hb dX0_maskOfNth_7 (by decide) ?_
  refine lv_icmp_ne (tgt := 15) hx hb dX0_maskOfNth_8 (by decide) (fun c3 => ?_) (fun c3 => ?_)
  · have hsp := z_f c3 hsp
    refine lv_aload_n hx hb dX0_maskOfNth_15 rfl (lv_at hl 1 rfl) ?_
    refine va_get (D := dD) (ci := 0) (v := .ref (q 2)) (C := RX0) (T := TX0) (N := 3) hx hb hts iX0 hown hK.1 hP 0 rfl rfl 0 (by decide) f9 (fun _ h9 => h9) rfl dX0_maskOfNth_16 ?_
    refine lv_iload_n hx hb dX0_maskOfNth_19 rfl (lv_at hl 0 rfl) ?_
    obtain ⟨h4, hsp⟩ := z_in hsp
    refine va_iald hx hb hK.1 hP 1 0 rfl rfl h4 dX0_maskOfNth_20 ?_
    obtain rfl := Option.some.inj hsp
    exact hret _ _ ls 21 dX0_maskOfNth_21 rfl hP hD hS
  · have hsp := z_t c3 hsp
    refine lv_iconst (v := (-1)) hx hb dX0_maskOfNth_11 (by decide) ?_
    refine lv_goto (tgt := 21) hx hb dX0_maskOfNth_12 (by decide) ?_
    obtain rfl := Option.some.inj hsp
    exact hret _ _ ls 21 dX0_maskOfNth_21 rfl hP hD hS
def s_X0_dataOfNth (gB : zF) (mk : zF) (mx : zF) (p1 : Int32) : Option Int32 := zb1 (s_X0_headOfNth gB mk (p1)) fun (v1 : Int32) => (if v1 = (-1) then some (0) else if v1 < 0 ∨ 12 ≤ (v1).toNatClampNeg then none else some ((mx (v1).toNatClampNeg)))
abbrev rm_X0_dataOfNth : Room := { frames := 1, cells := 0, slots := 0, locals := 23 }
set_option maxHeartbeats 4000000 in
set_option maxRecDepth 100000 in
theorem c_X0_dataOfNth (l : Launch) (dD : va_G) (cI cA : ClassId) (q : Nat → Nat) (gB : zF) (mk : zF) (mx : zF) (p1 : Int32) (rv : Int32) (hsp : s_X0_dataOfNth gB mk mx p1 = some rv) : zMi l yX0_dataOfNth wsX0_dataOfNth rm_X0_dataOfNth dD cI cA [.ref (q 1), .int p1] ([zB q gB, zA cI (q 2) 12 mk, zA cI (q 3) 12 mx]) ([zB q gB, zA cI (q 2) 12 mk, zA cI (q 3) 12 mx]) rv := by
  refine zMi_of (cc := cX0_dataOfNth) (maxL := 3) (by decide) rfl (Nat.le_of_ble_eq_true rfl) ?_
  intro p e s m args below meth c A Q ls hx hb hml hown hts hK hA hP hD hl hret
  have hown : s.vm.findClass RX0 = some m.cls := hown
  have iX0 : ∀ w ∈ wsX00, w ∈ wsX0_dataOfNth := by decide +kernel
  have f15 := hts (.fieldLink RX0 15 "MeshField$Basis" "mixed" "[I") (by decide +kernel)
  have hS : va_S A s.heap s.heap [] := va_S.rf
  have hl : lv_has ls 3 [(0, .ref (q 1)), (1, .int p1)] := hl
  unfold s_X0_dataOfNth at hsp
  refine lv_aload_n hx hb dX0_dataOfNth_0 rfl (lv_at hl 0 rfl) ?_
  refine lv_iload_n hx hb dX0_dataOfNth_1 rfl (lv_at hl 1 rfl) ?_
  obtain ⟨v1, hc2, hsp⟩ := z_b1 hsp
  refine z_callVi ⟨hx, hb, hml, hown, hts⟩ hK (c_X0_headOfNth l dD cI cA q gB mk (p1) v1 hc2) (cwV 1 hts gX0_dataOfNth_X0_headOfNth rfl rfl rfl (by decide +kernel) ⟨Nat.le_of_ble_eq_true rfl, Nat.le_of_ble_eq_true rfl⟩) (zJ.of (wc := [zB q gB, zA cI (q 2) 12 mk]) (wc1 := [zB q gB, zA cI (q 2) 12 mk]) (wr := [zA cI (q 3) 12 mx]) (w2 := [zB q gB, zA cI (q 2) 12 mk, zA cI (q 3) 12 mx]) hP hD hS hA [0, 1] [2] [1, 2, 0] rfl rfl rfl rfl rfl rfl rfl) hS 0 0 rfl rfl rfl rfl hl.1 rfl (Nat.le_of_ble_eq_true rfl) dX0_dataOfNth_2 ⟨Nat.zero_le _, Nat.zero_le _⟩ (fun H locs hP hD hS => ?_)
  refine lv_istore_n (lv' := [(2, .int v1), (0, .ref (q 1)), (1, .int p1)]) hx hb dX0_dataOfNth_5 rfl hl (by decide) rfl (fun ls hl => ?_)
  refine lv_iload_n hx hb dX0_dataOfNth_6 rfl (lv_at hl 0 rfl) ?_
  refine lv_iconst (v := (-1)) hx hb dX0_dataOfNth_7 (by decide) ?_
  refine lv_icmp_ne (tgt := 15) hx hb dX0_dataOfNth_8 (by decide) (fun c3 => ?_) (fun c3 => ?_)
  · have hsp := z_f c3 hsp
    refine lv_aload_n hx hb dX0_dataOfNth_15 rfl (lv_at hl 1 rfl) ?_
    refine va_get (D := dD) (ci := 0) (v := .ref (q 3)) (C := RX0) (T := TX0) (N := 3) hx hb hts iX0 hown hK.1 hP 0 rfl rfl 1 (by decide) f15 (fun _ h9 => h9) rfl dX0_dataOfNth_16 ?_
    refine lv_iload_n hx hb dX0_dataOfNth_19 rfl (lv_at hl 0 rfl) ?_
    obtain ⟨h4, hsp⟩ := z_in hsp
    refine va_iald hx hb hK.1 hP 2 0 rfl rfl h4 dX0_dataOfNth_20 ?_
    obtain rfl := Option.some.inj hsp
    exact hret _ _ ls 21 dX0_dataOfNth_21 rfl hP hD hS
  · have hsp := z_t c3 hsp
    refine lv_iconst (v := 0) hx hb dX0_dataOfNth_11 (by decide) ?_
    refine lv_goto (tgt := 21) hx hb dX0_dataOfNth_12 (by decide) ?_
    obtain rfl := Option.some.inj hsp
    exact hret _ _ ls 21 dX0_dataOfNth_21 rfl hP hD hS
def s_X0_mixInto_b16 (gB : zF) (mk : zF) (mx : zF) : Nat → (zF) → (Int32) → (Int32) → (Int32) → Option (zF)
  | 0, _, _, _, _ => none
  | n16 + 1, gH_, x2, x3, x4 => (if x4 < 0 then (if (gH_ 5) = 0 then zb1 (s_X0_maskOfNth gB mk (0)) fun (v5 : Int32) => zl (va_up gH_ 5 (v5)) fun (gH7 : zF) => zb1 (s_X0_dataOfNth gB mk mx (0)) fun (v8 : Int32) => zl (va_up gH7 6 (v8)) fun (gH10 : zF) => some (gH10) else some (gH_)) else if x4 < 0 ∨ 12 ≤ (x4).toNatClampNeg then none else (if (mk (x4).toNatClampNeg) = 0 then zl (x4 + (-1)) fun (x13 : Int32) => (s_X0_mixInto_b16 gB mk mx n16 gH_ (x2) (x3) (x13)) else zb1 (s_X0_has (x2) (x3)) fun (v14 : Int32) => (if v14 = 0 then zl (x3 + 1) fun (x17 : Int32) => zl (x4 + (-1)) fun (x18 : Int32) => (s_X0_mixInto_b16 gB mk mx n16 gH_ (x2) (x17) (x18)) else if x4 < 0 ∨ 12 ≤ (x4).toNatClampNeg then none else zl (va_up gH_ 5 (((gH_ 5) ^^^ (mk (x4).toNatClampNeg)))) fun (gH20 : zF) => if x4 < 0 ∨ 12 ≤ (x4).toNatClampNeg then none else zl (va_up gH20 6 (((gH20 6) ^^^ (mx (x4).toNatClampNeg)))) fun (gH22 : zF) => zl (x3 + 1) fun (x23 : Int32) => zl (x4 + (-1)) fun (x24 : Int32) => (s_X0_mixInto_b16 gB mk mx n16 gH22 (x2) (x23) (x24)))))
def s_X0_mixInto (gB : zF) (mk : zF) (mx : zF) (gH : zF) (p1 : Int32) : Option (zF) := zl (va_up gH 5 (0)) fun (gH1 : zF) => zl (va_up gH1 6 (0)) fun (gH2 : zF) => (s_X0_mixInto_b16 gB mk mx 13 gH2 (p1) (0) (11))
abbrev rm_X0_mixInto : Room := { frames := 2, cells := 0, slots := 0, locals := 45 }
set_option maxHeartbeats 4000000 in
set_option maxRecDepth 100000 in
theorem c_X0_mixInto (l : Launch) (dD : va_G) (cI cA : ClassId) (q : Nat → Nat) (aH : Nat) (gB : zF) (mk : zF) (mx : zF) (gH : zF) (p1 : Int32) (r_gH : zF) (hsp : s_X0_mixInto gB mk mx gH p1 = some (r_gH)) : zMv l yX0_mixInto wsX0_mixInto rm_X0_mixInto dD cI cA [.ref (q 1), .ref aH, .int p1] ([zB q gB, zA cI (q 2) 12 mk, zA cI (q 3) 12 mx, zL aH gH]) ([zB q gB, zA cI (q 2) 12 mk, zA cI (q 3) 12 mx, zL aH r_gH]) := by
  refine zMv_of (cc := cX0_mixInto) (maxL := 5) (by decide) rfl (Nat.le_of_ble_eq_true rfl) ?_
  intro p e s m args below meth c A Q ls hx hb hml hown hts hK hA hP hD hl hret
  have hown : s.vm.findClass RX0 = some m.cls := hown
  have iX3 : ∀ w ∈ wsX30, w ∈ wsX0_mixInto := by decide +kernel
  have iX0 : ∀ w ∈ wsX00, w ∈ wsX0_mixInto := by decide +kernel
  have f36 : (Cond.fieldLinkNest RX0 36 "MeshField$Letter" "mask" "I" "MeshField").before args s = true := hK.nw (by decide +kernel)
  have f41 : (Cond.fieldLinkNest RX0 41 "MeshField$Letter" "mixed" "I" "MeshField").before args s = true := hK.nw (by decide +kernel)
  have f9 := hts (.fieldLink RX0 9 "MeshField$Basis" "masks" "[I") (by decide +kernel)
  have f15 := hts (.fieldLink RX0 15 "MeshField$Basis" "mixed" "[I") (by decide +kernel)
  have hS : va_S A s.heap s.heap [] := va_S.rf
  have hl : lv_has ls 5 [(0, .ref (q 1)), (1, .ref aH), (2, .int p1)] := hl
  have K_16 : ∀ (n : Nat) (H : Heap) (locs : List Loc) (ls : Array Slot) (gH_ : zF) (x2 : Int32) (x3 : Int32) (x4 : Int32), va_P dD vwCl ([zB q gB, zA cI (q 2) 12 mk, zA cI (q 3) 12 mx, zL aH gH_]) H → va_D A ([zB q gB, zA cI (q 2) 12 mk, zA cI (q 3) 12 mx, zL aH gH_]) → va_S A s.heap H locs → lv_has ls 5 [(0, .ref (q 1)), (1, .ref aH), (2, .int x2), (3, .int x3), (4, .int x4)] → s_X0_mixInto_b16 gB mk mx n gH_ x2 x3 x4 = some (r_gH) → W p l e rm_X0_mixInto s m args below meth c H locs 0 0 Q (F0 m 16 ls []) := by
    intro n
    induction n with
    | zero =>
      intro H locs ls gH_ x2 x3 x4 hP hD hS hl hsp
      exact absurd (show (none : Option (zF)) = some (r_gH) from hsp) (fun h => by cases h)
    | succ n16 ih16 =>
      intro H locs ls gH_ x2 x3 x4 hP hD hS hl hsp
      rw [s_X0_mixInto_b16] at hsp
      refine lv_iload hx hb dX0_mixInto_16 (lv_at hl 4 rfl) ?_
      refine lv_if_lt (tgt := 80) hx hb dX0_mixInto_18 (by decide) (fun c3 => ?_) (fun c3 => ?_)
      · have hsp := z_t c3 hsp
        refine lv_aload_n hx hb dX0_mixInto_80 rfl (lv_at hl 1 rfl) ?_
        refine va_getN (D := dD) (ci := 3) (v := .int (gH_ 5)) (C := RX3) (T := TX3) (N := 9) hx hb hts iX3 hown hK.1 hP 3 rfl rfl 5 (by decide) f36 (fun _ h9 => h9) rfl dX0_mixInto_81 ?_
        refine lv_if_ne (tgt := 105) hx hb dX0_mixInto_84 (by decide) (fun c4 => ?_) (fun c4 => ?_)
        · have hsp := z_f c4 hsp
          obtain rfl := Option.some.inj hsp
          exact hret _ _ ls 105 dX0_mixInto_105 hP hD hS
        · have hsp := z_t c4 hsp
          refine lv_aload_n hx hb dX0_mixInto_87 rfl (lv_at hl 1 rfl) ?_
          refine lv_aload_n hx hb dX0_mixInto_88 rfl (lv_at hl 0 rfl) ?_
          refine lv_iconst (v := 0) hx hb dX0_mixInto_89 (by decide) ?_
          obtain ⟨v5, hc6, hsp⟩ := z_b1 hsp
          refine z_callVi ⟨hx, hb, hml, hown, hts⟩ hK (c_X0_maskOfNth l dD cI cA q gB mk (0) v5 hc6) (cwV 1 hts gX0_mixInto_X0_maskOfNth rfl rfl rfl (by decide +kernel) ⟨Nat.le_of_ble_eq_true rfl, Nat.le_of_ble_eq_true rfl⟩) (zJ.of (wc := [zB q gB, zA cI (q 2) 12 mk]) (wc1 := [zB q gB, zA cI (q 2) 12 mk]) (wr := [zA cI (q 3) 12 mx, zL aH gH_]) (w2 := [zB q gB, zA cI (q 2) 12 mk, zA cI (q 3) 12 mx, zL aH gH_]) hP hD hS hA [0, 1] [2, 3] [2, 3, 0, 1] rfl rfl rfl rfl rfl rfl rfl) hS 0 0 rfl rfl rfl rfl hl.1 rfl (Nat.le_of_ble_eq_true rfl) dX0_mixInto_90 ⟨Nat.zero_le _, Nat.zero_le _⟩ (fun H locs hP hD hS => ?_)
          refine va_putN (D := dD) (ci := 3) (v := .int v5) (ty := .int) (C := RX3) (T := TX3) (N := 9) hx hb hts iX3 tyX3 tyX3_ok nmX3 hown hK.1 hP hD hS 3 rfl rfl 5 (by decide) f36 (fun _ h9 => h9) rfl (by decide +kernel) rfl rfl (Nat.le_of_ble_eq_true rfl) dX0_mixInto_93 (fun H locs hP hD hS => ?_)
          obtain ⟨gH7, egH7, hsp⟩ := z_lt hsp
          have hP : va_P dD vwCl ([zB q gB, zA cI (q 2) 12 mk, zA cI (q 3) 12 mx, zL aH gH7]) H := by rw [egH7]; exact hP
          have hD : va_D A ([zB q gB, zA cI (q 2) 12 mk, zA cI (q 3) 12 mx, zL aH gH7]) := by rw [egH7]; exact hD
          refine lv_aload_n hx hb dX0_mixInto_96 rfl (lv_at hl 1 rfl) ?_
          refine lv_aload_n hx hb dX0_mixInto_97 rfl (lv_at hl 0 rfl) ?_
          refine lv_iconst (v := 0) hx hb dX0_mixInto_98 (by decide) ?_
          obtain ⟨v8, hc9, hsp⟩ := z_b1 hsp
          refine z_callVi ⟨hx, hb, hml, hown, hts⟩ hK (c_X0_dataOfNth l dD cI cA q gB mk mx (0) v8 hc9) (cwV 1 hts gX0_mixInto_X0_dataOfNth rfl rfl rfl (by decide +kernel) ⟨Nat.le_of_ble_eq_true rfl, Nat.le_of_ble_eq_true rfl⟩) (zJ.of (wc := [zB q gB, zA cI (q 2) 12 mk, zA cI (q 3) 12 mx]) (wc1 := [zB q gB, zA cI (q 2) 12 mk, zA cI (q 3) 12 mx]) (wr := [zL aH gH7]) (w2 := [zB q gB, zA cI (q 2) 12 mk, zA cI (q 3) 12 mx, zL aH gH7]) hP hD hS hA [0, 1, 2] [3] [1, 2, 3, 0] rfl rfl rfl rfl rfl rfl rfl) hS 0 0 rfl rfl rfl rfl hl.1 rfl (Nat.le_of_ble_eq_true rfl) dX0_mixInto_99 ⟨Nat.zero_le _, Nat.zero_le _⟩ (fun H locs hP hD hS => ?_)
          refine va_putN (D := dD) (ci := 3) (v := .int v8) (ty := .int) (C := RX3) (T := TX3) (N := 9) hx hb hts iX3 tyX3 tyX3_ok nmX3 hown hK.1 hP hD hS 3 rfl rfl 6 (by decide) f41 (fun _ h9 => h9) rfl (by decide +kernel) rfl rfl (Nat.le_of_ble_eq_true rfl) dX0_mixInto_102 (fun H locs hP hD hS => ?_)
          obtain ⟨gH10, egH10, hsp⟩ := z_lt hsp
          have hP : va_P dD vwCl ([zB q gB, zA cI (q 2) 12 mk, zA cI (q 3) 12 mx, zL aH gH10]) H := by rw [egH10]; exact hP
          have hD : va_D A ([zB q gB, zA cI (q 2) 12 mk, zA cI (q 3) 12 mx, zL aH gH10]) := by rw [egH10]; exact hD
          obtain rfl := Option.some.inj hsp
          exact hret _ _ ls 105 dX0_mixInto_105 hP hD hS
      · have hsp := z_f c3 hsp
        refine lv_aload_n hx hb dX0_mixInto_21 rfl (lv_at hl 0 rfl) ?_
        refine va_get (D := dD) (ci := 0) (v := .ref (q 2)) (C := RX0) (T := TX0) (N := 3) hx hb hts iX0 hown hK.1 hP 0 rfl rfl 0 (by decide) f9 (fun _ h9 => h9) rfl dX0_mixInto_22 ?_
        refine lv_iload hx hb dX0_mixInto_25 (lv_at hl 4 rfl) ?_
        obtain ⟨h11, hsp⟩ := z_in hsp
        refine va_iald hx hb hK.1 hP 1 0 rfl rfl h11 dX0_mixInto_27 ?_
        refine lv_if_eq (tgt := 74) hx hb dX0_mixInto_28 (by decide) (fun c12 => ?_) (fun c12 => ?_)
        · have hsp := z_t c12 hsp
          obtain ⟨x13, ex13, hsp⟩ := z_lt hsp
          refine lv_iinc (v := x13) (lv' := [(4, .int x13), (0, .ref (q 1)), (1, .ref aH), (2, .int x2), (3, .int x3)]) hx hb dX0_mixInto_74 hl (k := 4) rfl (by rw [ex13]; rfl) (by decide) rfl (fun ls hl => ?_)
          refine lv_goto (tgt := 16) hx hb dX0_mixInto_77 (by decide) ?_
          exact ih16 _ _ ls gH_ (x2) (x3) (x13) hP hD hS (lv_sub hl [1, 2, 3, 4, 0] rfl) hsp
        · have hsp := z_f c12 hsp
          refine lv_iload_n hx hb dX0_mixInto_31 rfl (lv_at hl 2 rfl) ?_
          refine lv_iload_n hx hb dX0_mixInto_32 rfl (lv_at hl 3 rfl) ?_
          obtain ⟨v14, hc15, hsp⟩ := z_b1 hsp
          refine z_callSi ⟨hx, hb, hml, hown, hts⟩ hK (c_X0_has l dD cI cA (x2) (x3) v14 hc15) (va_cwS 2 hts gX0_mixInto_X0_has rfl rfl rfl (by decide +kernel) ⟨Nat.le_of_ble_eq_true rfl, Nat.le_of_ble_eq_true rfl⟩) (zJ.of (wc := []) (wc1 := []) (wr := [zB q gB, zA cI (q 2) 12 mk, zA cI (q 3) 12 mx, zL aH gH_]) (w2 := [zB q gB, zA cI (q 2) 12 mk, zA cI (q 3) 12 mx, zL aH gH_]) hP hD hS hA [] [0, 1, 2, 3] [0, 1, 2, 3] rfl rfl rfl rfl rfl rfl rfl) hS rfl hl.1 rfl (Nat.le_of_ble_eq_true rfl) dX0_mixInto_33 ⟨Nat.zero_le _, Nat.zero_le _⟩ (fun H locs hP hD hS => ?_)
          refine lv_if_eq (tgt := 71) hx hb dX0_mixInto_36 (by decide) (fun c16 => ?_) (fun c16 => ?_)
          · have hsp := z_t c16 hsp
            obtain ⟨x17, ex17, hsp⟩ := z_lt hsp
            refine lv_iinc (v := x17) (lv' := [(3, .int x17), (0, .ref (q 1)), (1, .ref aH), (2, .int x2), (4, .int x4)]) hx hb dX0_mixInto_71 hl (k := 3) rfl (by rw [ex17]; rfl) (by decide) rfl (fun ls hl => ?_)
            obtain ⟨x18, ex18, hsp⟩ := z_lt hsp
            refine lv_iinc (v := x18) (lv' := [(4, .int x18), (3, .int x17), (0, .ref (q 1)), (1, .ref aH), (2, .int x2)]) hx hb dX0_mixInto_74 hl (k := 4) rfl (by rw [ex18]; rfl) (by decide) rfl (fun ls hl => ?_)
            refine lv_goto (tgt := 16) hx hb dX0_mixInto_77 (by decide) ?_
            exact ih16 _ _ ls gH_ (x2) (x17) (x18) hP hD hS (lv_sub hl [2, 3, 4, 1, 0] rfl) hsp
          · have hsp := z_f c16 hsp
            refine lv_aload_n hx hb dX0_mixInto_39 rfl (lv_at hl 1 rfl) ?_
            refine lv_dup hx hb dX0_mixInto_40 rfl ?_
            refine va_getN (D := dD) (ci := 3) (v := .int (gH_ 5)) (C := RX3) (T := TX3) (N := 9) hx hb hts iX3 hown hK.1 hP 3 rfl rfl 5 (by decide) f36 (fun _ h9 => h9) rfl dX0_mixInto_41 ?_
            refine lv_aload_n hx hb dX0_mixInto_44 rfl (lv_at hl 0 rfl) ?_
            refine va_get (D := dD) (ci := 0) (v := .ref (q 2)) (C := RX0) (T := TX0) (N := 3) hx hb hts iX0 hown hK.1 hP 0 rfl rfl 0 (by decide) f9 (fun _ h9 => h9) rfl dX0_mixInto_45 ?_
            refine lv_iload hx hb dX0_mixInto_48 (lv_at hl 4 rfl) ?_
            obtain ⟨h19, hsp⟩ := z_in hsp
            refine va_iald hx hb hK.1 hP 1 0 rfl rfl h19 dX0_mixInto_50 ?_
            refine lv_ixor hx hb dX0_mixInto_51 ?_
            refine va_putN (D := dD) (ci := 3) (v := .int ((gH_ 5) ^^^ (mk (x4).toNatClampNeg))) (ty := .int) (C := RX3) (T := TX3) (N := 9) hx hb hts iX3 tyX3 tyX3_ok nmX3 hown hK.1 hP hD hS 3 rfl rfl 5 (by decide) f36 (fun _ h9 => h9) rfl (by decide +kernel) rfl rfl (Nat.le_of_ble_eq_true rfl) dX0_mixInto_52 (fun H locs hP hD hS => ?_)
            obtain ⟨gH20, egH20, hsp⟩ := z_lt hsp
            have hP : va_P dD vwCl ([zB q gB, zA cI (q 2) 12 mk, zA cI (q 3) 12 mx, zL aH gH20]) H := by rw [egH20]; exact hP
            have hD : va_D A ([zB q gB, zA cI (q 2) 12 mk, zA cI (q 3) 12 mx, zL aH gH20]) := by rw [egH20]; exact hD
            refine lv_aload_n hx hb dX0_mixInto_55 rfl (lv_at hl 1 rfl) ?_
            refine lv_dup hx hb dX0_mixInto_56 rfl ?_
            refine va_getN (D := dD) (ci := 3) (v := .int (gH20 6)) (C := RX3) (T := TX3) (N := 9) hx hb hts iX3 hown hK.1 hP 3 rfl rfl 6 (by decide) f41 (fun _ h9 => h9) rfl dX0_mixInto_57 ?_
            refine lv_aload_n hx hb dX0_mixInto_60 rfl (lv_at hl 0 rfl) ?_
            refine va_get (D := dD) (ci := 0) (v := .ref (q 3)) (C := RX0) (T := TX0) (N := 3) hx hb hts iX0 hown hK.1 hP 0 rfl rfl 1 (by decide) f15 (fun _ h9 => h9) rfl dX0_mixInto_61 ?_
            refine lv_iload hx hb dX0_mixInto_64 (lv_at hl 4 rfl) ?_
            obtain ⟨h21, hsp⟩ := z_in hsp
            refine va_iald hx hb hK.1 hP 2 0 rfl rfl h21 dX0_mixInto_66 ?_
            refine lv_ixor hx hb dX0_mixInto_67 ?_
            refine va_putN (D := dD) (ci := 3) (v := .int ((gH20 6) ^^^ (mx (x4).toNatClampNeg))) (ty := .int) (C := RX3) (T := TX3) (N := 9) hx hb hts iX3 tyX3 tyX3_ok nmX3 hown hK.1 hP hD hS 3 rfl rfl 6 (by decide) f41 (fun _ h9 => h9) rfl (by decide +kernel) rfl rfl (Nat.le_of_ble_eq_true rfl) dX0_mixInto_68 (fun H locs hP hD hS => ?_)
            obtain ⟨gH22, egH22, hsp⟩ := z_lt hsp
            have hP : va_P dD vwCl ([zB q gB, zA cI (q 2) 12 mk, zA cI (q 3) 12 mx, zL aH gH22]) H := by rw [egH22]; exact hP
            have hD : va_D A ([zB q gB, zA cI (q 2) 12 mk, zA cI (q 3) 12 mx, zL aH gH22]) := by rw [egH22]; exact hD
            obtain ⟨x23, ex23, hsp⟩ := z_lt hsp
            refine lv_iinc (v := x23) (lv' := [(3, .int x23), (0, .ref (q 1)), (1, .ref aH), (2, .int x2), (4, .int x4)]) hx hb dX0_mixInto_71 hl (k := 3) rfl (by rw [ex23]; rfl) (by decide) rfl (fun ls hl => ?_)
            obtain ⟨x24, ex24, hsp⟩ := z_lt hsp
            refine lv_iinc (v := x24) (lv' := [(4, .int x24), (3, .int x23), (0, .ref (q 1)), (1, .ref aH), (2, .int x2)]) hx hb dX0_mixInto_74 hl (k := 4) rfl (by rw [ex24]; rfl) (by decide) rfl (fun ls hl => ?_)
            refine lv_goto (tgt := 16) hx hb dX0_mixInto_77 (by decide) ?_
            exact ih16 _ _ ls gH22 (x2) (x23) (x24) hP hD hS (lv_sub hl [2, 3, 4, 1, 0] rfl) hsp
  unfold s_X0_mixInto at hsp
  refine lv_aload_n hx hb dX0_mixInto_0 rfl (lv_at hl 1 rfl) ?_
  refine lv_iconst (v := 0) hx hb dX0_mixInto_1 (by decide) ?_
  refine va_putN (D := dD) (ci := 3) (v := .int 0) (ty := .int) (C := RX3) (T := TX3) (N := 9) hx hb hts iX3 tyX3 tyX3_ok nmX3 hown hK.1 hP hD hS 3 rfl rfl 5 (by decide) f36 (fun _ h9 => h9) rfl (by decide +kernel) rfl rfl (Nat.le_of_ble_eq_true rfl) dX0_mixInto_2 (fun H locs hP hD hS => ?_)
  obtain ⟨gH1, egH1, hsp⟩ := z_lt hsp
  have hP : va_P dD vwCl ([zB q gB, zA cI (q 2) 12 mk, zA cI (q 3) 12 mx, zL aH gH1]) H := by rw [egH1]; exact hP
  have hD : va_D A ([zB q gB, zA cI (q 2) 12 mk, zA cI (q 3) 12 mx, zL aH gH1]) := by rw [egH1]; exact hD
  refine lv_aload_n hx hb dX0_mixInto_5 rfl (lv_at hl 1 rfl) ?_
  refine lv_iconst (v := 0) hx hb dX0_mixInto_6 (by decide) ?_
  refine va_putN (D := dD) (ci := 3) (v := .int 0) (ty := .int) (C := RX3) (T := TX3) (N := 9) hx hb hts iX3 tyX3 tyX3_ok nmX3 hown hK.1 hP hD hS 3 rfl rfl 6 (by decide) f41 (fun _ h9 => h9) rfl (by decide +kernel) rfl rfl (Nat.le_of_ble_eq_true rfl) dX0_mixInto_7 (fun H locs hP hD hS => ?_)
  obtain ⟨gH2, egH2, hsp⟩ := z_lt hsp
  have hP : va_P dD vwCl ([zB q gB, zA cI (q 2) 12 mk, zA cI (q 3) 12 mx, zL aH gH2]) H := by rw [egH2]; exact hP
  have hD : va_D A ([zB q gB, zA cI (q 2) 12 mk, zA cI (q 3) 12 mx, zL aH gH2]) := by rw [egH2]; exact hD
  refine lv_iconst (v := 0) hx hb dX0_mixInto_10 (by decide) ?_
  refine lv_istore_n (lv' := [(3, .int 0), (0, .ref (q 1)), (1, .ref aH), (2, .int p1)]) hx hb dX0_mixInto_11 rfl hl (by decide) rfl (fun ls hl => ?_)
  refine lv_bipush (v := 11) hx hb dX0_mixInto_12 (by decide) ?_
  refine lv_istore (lv' := [(4, .int 11), (3, .int 0), (0, .ref (q 1)), (1, .ref aH), (2, .int p1)]) hx hb dX0_mixInto_14 hl (by decide) rfl (fun ls hl => ?_)
  exact K_16 13 _ _ ls gH2 (p1) (0) (11) hP hD hS (lv_sub hl [2, 3, 4, 1, 0] rfl) hsp
def s_X0_sumOfPieces_b4 (gB : zF) (mx : zF) : Nat → (Int32) → (Int32) → Option Int32
  | 0, _, _ => none
  | n4 + 1, x1, x2 => (if 12 ≤ x2 then some (x1) else if x2 < 0 ∨ 12 ≤ (x2).toNatClampNeg then none else zl ((x1 + ((mx (x2).toNatClampNeg) * (x2 + 1)))) fun (x3 : Int32) => zl (x2 + 1) fun (x4 : Int32) => (s_X0_sumOfPieces_b4 gB mx n4 (x3) (x4)))
def s_X0_sumOfPieces (gB : zF) (mx : zF) : Option Int32 := (s_X0_sumOfPieces_b4 gB mx 13 (0) (0))
abbrev rm_X0_sumOfPieces : Room := { frames := 0, cells := 0, slots := 0, locals := 0 }
set_option maxHeartbeats 4000000 in
set_option maxRecDepth 100000 in
theorem c_X0_sumOfPieces (l : Launch) (dD : va_G) (cI cA : ClassId) (q : Nat → Nat) (gB : zF) (mx : zF) (rv : Int32) (hsp : s_X0_sumOfPieces gB mx = some rv) : zMi l yX0_sumOfPieces wsX0_sumOfPieces rm_X0_sumOfPieces dD cI cA [.ref (q 1)] ([zB q gB, zA cI (q 3) 12 mx]) ([zB q gB, zA cI (q 3) 12 mx]) rv := by
  refine zMi_of (cc := cX0_sumOfPieces) (maxL := 3) (by decide) rfl (Nat.le_of_ble_eq_true rfl) ?_
  intro p e s m args below meth c A Q ls hx hb hml hown hts hK hA hP hD hl hret
  have hown : s.vm.findClass RX0 = some m.cls := hown
  have iX0 : ∀ w ∈ wsX00, w ∈ wsX0_sumOfPieces := by decide +kernel
  have f15 := hts (.fieldLink RX0 15 "MeshField$Basis" "mixed" "[I") (by decide +kernel)
  have hS : va_S A s.heap s.heap [] := va_S.rf
  have hl : lv_has ls 3 [(0, .ref (q 1))] := hl
  have K_4 : ∀ (n : Nat) (H : Heap) (locs : List Loc) (ls : Array Slot) (x1 : Int32) (x2 : Int32), va_P dD vwCl ([zB q gB, zA cI (q 3) 12 mx]) H → va_D A ([zB q gB, zA cI (q 3) 12 mx]) → va_S A s.heap H locs → lv_has ls 3 [(0, .ref (q 1)), (1, .int x1), (2, .int x2)] → s_X0_sumOfPieces_b4 gB mx n x1 x2 = some rv → W p l e rm_X0_sumOfPieces s m args below meth c H locs 0 0 Q (F0 m 4 ls []) := by
    intro n
    induction n with
    | zero =>
      intro H locs ls x1 x2 hP hD hS hl hsp
      exact absurd (show (none : Option Int32) = some rv from hsp) (fun h => by cases h)
    | succ n4 ih4 =>
      intro H locs ls x1 x2 hP hD hS hl hsp
      rw [s_X0_sumOfPieces_b4] at hsp
      refine lv_iload_n hx hb dX0_sumOfPieces_4 rfl (lv_at hl 2 rfl) ?_
      refine lv_bipush (v := 12) hx hb dX0_sumOfPieces_5 (by decide) ?_
      refine lv_icmp_ge (tgt := 29) hx hb dX0_sumOfPieces_7 (by decide) (fun c1 => ?_) (fun c1 => ?_)
      · have hsp := z_t c1 hsp
        refine lv_iload_n hx hb dX0_sumOfPieces_29 rfl (lv_at hl 1 rfl) ?_
        obtain rfl := Option.some.inj hsp
        exact hret _ _ ls 30 dX0_sumOfPieces_30 rfl hP hD hS
      · have hsp := z_f c1 hsp
        refine lv_iload_n hx hb dX0_sumOfPieces_10 rfl (lv_at hl 1 rfl) ?_
        refine lv_aload_n hx hb dX0_sumOfPieces_11 rfl (lv_at hl 0 rfl) ?_
        refine va_get (D := dD) (ci := 0) (v := .ref (q 3)) (C := RX0) (T := TX0) (N := 3) hx hb hts iX0 hown hK.1 hP 0 rfl rfl 1 (by decide) f15 (fun _ h9 => h9) rfl dX0_sumOfPieces_12 ?_
        refine lv_iload_n hx hb dX0_sumOfPieces_15 rfl (lv_at hl 2 rfl) ?_
        obtain ⟨h2, hsp⟩ := z_in hsp
        refine va_iald hx hb hK.1 hP 1 0 rfl rfl h2 dX0_sumOfPieces_16 ?_
        refine lv_iload_n hx hb dX0_sumOfPieces_17 rfl (lv_at hl 2 rfl) ?_
        refine lv_iconst (v := 1) hx hb dX0_sumOfPieces_18 (by decide) ?_
        refine lv_iadd hx hb dX0_sumOfPieces_19 ?_
        refine lv_imul hx hb dX0_sumOfPieces_20 ?_
        refine lv_iadd hx hb dX0_sumOfPieces_21 ?_
        obtain ⟨x3, ex3, hsp⟩ := z_lt hsp
        refine z_top ex3 ?_
        refine lv_istore_n (lv' := [(1, .int x3), (0, .ref (q 1)), (2, .int x2)]) hx hb dX0_sumOfPieces_22 rfl hl (by decide) rfl (fun ls hl => ?_)
        obtain ⟨x4, ex4, hsp⟩ := z_lt hsp
        refine lv_iinc (v := x4) (lv' := [(2, .int x4), (1, .int x3), (0, .ref (q 1))]) hx hb dX0_sumOfPieces_23 hl (k := 2) rfl (by rw [ex4]; rfl) (by decide) rfl (fun ls hl => ?_)
        refine lv_goto (tgt := 4) hx hb dX0_sumOfPieces_26 (by decide) ?_
        exact ih4 _ _ ls (x3) (x4) hP hD hS (lv_sub hl [2, 1, 0] rfl) hsp
  unfold s_X0_sumOfPieces at hsp
  refine lv_iconst (v := 0) hx hb dX0_sumOfPieces_0 (by decide) ?_
  refine lv_istore_n (lv' := [(1, .int 0), (0, .ref (q 1))]) hx hb dX0_sumOfPieces_1 rfl hl (by decide) rfl (fun ls hl => ?_)
  refine lv_iconst (v := 0) hx hb dX0_sumOfPieces_2 (by decide) ?_
  refine lv_istore_n (lv' := [(2, .int 0), (1, .int 0), (0, .ref (q 1))]) hx hb dX0_sumOfPieces_3 rfl hl (by decide) rfl (fun ls hl => ?_)
  exact K_4 13 _ _ ls (0) (0) hP hD hS (lv_sub hl [2, 1, 0] rfl) hsp
end
section
def s_X4_keep (gM : zF) (gB : zF) (mk : zF) (mx : zF) (p1 : Int32) (p2 : Int32) (p3 : Int32) : Option ((zF) × (zF) × (zF) × (zF)) := zl (va_up gM 6 (p1)) fun (gM1 : zF) => zl (va_up gM1 7 (p2)) fun (gM2 : zF) => zl (va_up gM2 8 (p3)) fun (gM3 : zF) => zb3 (s_X0_empty gB mk mx) fun (gB4 : zF) (mk5 : zF) (mx6 : zF) => some (gM3, gB4, mk5, mx6)
abbrev rm_X4_keep : Room := { frames := 2, cells := 0, slots := 0, locals := 43 }
set_option maxHeartbeats 4000000 in
set_option maxRecDepth 100000 in
theorem c_X4_keep (l : Launch) (dD : va_G) (cI cA : ClassId) (q : Nat → Nat) (aR : Nat) (aD : Nat) (ca : Option Nat) (gM : zF) (gB : zF) (mk : zF) (mx : zF) (p1 : Int32) (p2 : Int32) (p3 : Int32) (r_gM : zF) (r_gB : zF) (r_mk : zF) (r_mx : zF) (hsp : s_X4_keep gM gB mk mx p1 p2 p3 = some (r_gM, r_gB, r_mk, r_mx)) : zMv l yX4_keep wsX4_keep rm_X4_keep dD cI cA [.ref (q 0), .int p1, .int p2, .int p3] ([zM q aR aD ca gM, zB q gB, zA cI (q 2) 12 mk, zA cI (q 3) 12 mx]) ([zM q aR aD ca r_gM, zB q r_gB, zA cI (q 2) 12 r_mk, zA cI (q 3) 12 r_mx]) := by
  refine zMv_of (cc := cX4_keep) (maxL := 4) (by decide) rfl (Nat.le_of_ble_eq_true rfl) ?_
  intro p e s m args below meth c A Q ls hx hb hml hown hts hK hA hP hD hl hret
  have hown : s.vm.findClass RX4 = some m.cls := hown
  have iX4 : ∀ w ∈ wsX40, w ∈ wsX4_keep := by decide +kernel
  have f59 := hts (.fieldLink RX4 59 "MeshField$Machine" "number" "I") (by decide +kernel)
  have f62 := hts (.fieldLink RX4 62 "MeshField$Machine" "pieces" "I") (by decide +kernel)
  have f56 := hts (.fieldLink RX4 56 "MeshField$Machine" "keptSum" "I") (by decide +kernel)
  have f12 := hts (.fieldLink RX4 12 "MeshField$Machine" "basis" "LMeshField$Basis;") (by decide +kernel)
  have hS : va_S A s.heap s.heap [] := va_S.rf
  have hl : lv_has ls 4 [(0, .ref (q 0)), (1, .int p1), (2, .int p2), (3, .int p3)] := hl
  unfold s_X4_keep at hsp
  refine lv_aload_n hx hb dX4_keep_0 rfl (lv_at hl 0 rfl) ?_
  refine lv_iload_n hx hb dX4_keep_1 rfl (lv_at hl 1 rfl) ?_
  refine va_put (D := dD) (ci := 4) (v := .int p1) (ty := .int) (C := RX4) (T := TX4) (N := 18) hx hb hts iX4 tyX4 tyX4_ok nmX4 hown hK.1 hP hD hS 0 rfl rfl 6 (by decide) f59 (fun _ h9 => h9) rfl (by decide +kernel) rfl rfl (Nat.le_of_ble_eq_true rfl) dX4_keep_2 (fun H locs hP hD hS => ?_)
  obtain ⟨gM1, egM1, hsp⟩ := z_lt hsp
  have hP : va_P dD vwCl ([zM q aR aD ca gM1, zB q gB, zA cI (q 2) 12 mk, zA cI (q 3) 12 mx]) H := by rw [egM1]; exact hP
  have hD : va_D A ([zM q aR aD ca gM1, zB q gB, zA cI (q 2) 12 mk, zA cI (q 3) 12 mx]) := by rw [egM1]; exact hD
  refine lv_aload_n hx hb dX4_keep_5 rfl (lv_at hl 0 rfl) ?_
  refine lv_iload_n hx hb dX4_keep_6 rfl (lv_at hl 2 rfl) ?_
  refine va_put (D := dD) (ci := 4) (v := .int p2) (ty := .int) (C := RX4) (T := TX4) (N := 18) hx hb hts iX4 tyX4 tyX4_ok nmX4 hown hK.1 hP hD hS 0 rfl rfl 7 (by decide) f62 (fun _ h9 => h9) rfl (by decide +kernel) rfl rfl (Nat.le_of_ble_eq_true rfl) dX4_keep_7 (fun H locs hP hD hS => ?_)
  obtain ⟨gM2, egM2, hsp⟩ := z_lt hsp
  have hP : va_P dD vwCl ([zM q aR aD ca gM2, zB q gB, zA cI (q 2) 12 mk, zA cI (q 3) 12 mx]) H := by rw [egM2]; exact hP
  have hD : va_D A ([zM q aR aD ca gM2, zB q gB, zA cI (q 2) 12 mk, zA cI (q 3) 12 mx]) := by rw [egM2]; exact hD
  refine lv_aload_n hx hb dX4_keep_10 rfl (lv_at hl 0 rfl) ?_
  refine lv_iload_n hx hb dX4_keep_11 rfl (lv_at hl 3 rfl) ?_
  refine va_put (D := dD) (ci := 4) (v := .int p3) (ty := .int) (C := RX4) (T := TX4) (N := 18) hx hb hts iX4 tyX4 tyX4_ok nmX4 hown hK.1 hP hD hS 0 rfl rfl 8 (by decide) f56 (fun _ h9 => h9) rfl (by decide +kernel) rfl rfl (Nat.le_of_ble_eq_true rfl) dX4_keep_12 (fun H locs hP hD hS => ?_)
  obtain ⟨gM3, egM3, hsp⟩ := z_lt hsp
  have hP : va_P dD vwCl ([zM q aR aD ca gM3, zB q gB, zA cI (q 2) 12 mk, zA cI (q 3) 12 mx]) H := by rw [egM3]; exact hP
  have hD : va_D A ([zM q aR aD ca gM3, zB q gB, zA cI (q 2) 12 mk, zA cI (q 3) 12 mx]) := by rw [egM3]; exact hD
  refine lv_aload_n hx hb dX4_keep_15 rfl (lv_at hl 0 rfl) ?_
  refine va_get (D := dD) (ci := 4) (v := .ref (q 1)) (C := RX4) (T := TX4) (N := 18) hx hb hts iX4 hown hK.1 hP 0 rfl rfl 2 (by decide) f12 (fun _ h9 => h9) rfl dX4_keep_16 ?_
  obtain ⟨gB4, mk5, mx6, hc7, hsp⟩ := z_b3 hsp
  refine z_callVv ⟨hx, hb, hml, hown, hts⟩ hK (c_X0_empty l dD cI cA q gB mk mx gB4 mk5 mx6 hc7) (cwV 0 hts gX4_keep_X0_empty rfl rfl rfl (by decide +kernel) ⟨Nat.le_of_ble_eq_true rfl, Nat.le_of_ble_eq_true rfl⟩) (zJ.of (wc := [zB q gB, zA cI (q 2) 12 mk, zA cI (q 3) 12 mx]) (wc1 := [zB q gB4, zA cI (q 2) 12 mk5, zA cI (q 3) 12 mx6]) (wr := [zM q aR aD ca gM3]) (w2 := [zM q aR aD ca gM3, zB q gB4, zA cI (q 2) 12 mk5, zA cI (q 3) 12 mx6]) hP hD hS hA [1, 2, 3] [0] [0, 1, 2, 3] rfl rfl rfl rfl rfl rfl rfl) hS 0 0 rfl rfl rfl rfl hl.1 rfl (Nat.le_of_ble_eq_true rfl) dX4_keep_19 ⟨Nat.zero_le _, Nat.zero_le _⟩ (fun H locs hP hD hS => ?_)
  obtain ⟨rfl, rfl, rfl, rfl⟩ := z_i4 hsp
  exact hret _ _ ls 22 dX4_keep_22 hP hD hS
def s_X4_keepWhole_b45 (to : zF) (gM_ : zF) (gB_ : zF) (mk_ : zF) (mx_ : zF) : Option ((zF) × (zF) × (zF) × (zF)) := zb1 (s_X0_sumOfPieces gB_ mx_) fun (v7 : Int32) => zl (va_up gM_ 8 (v7)) fun (gM9 : zF) => some (gM9, gB_, mk_, mx_)
def s_X4_keepWhole_b10 (to : zF) : Nat → (zF) → (zF) → (zF) → (zF) → (Int32) → (Int32) → Option ((zF) × (zF) × (zF) × (zF))
  | 0, _, _, _, _, _, _ => none
  | n10 + 1, gM_, gB_, mk_, mx_, x3, x4 => (if x3 ≤ x4 then (s_X4_keepWhole_b45 to gM_ gB_ mk_ mx_) else (if 12 ≤ x4 then (s_X4_keepWhole_b45 to gM_ gB_ mk_ mx_) else if x4 < 0 ∨ 12 ≤ (x4).toNatClampNeg then none else zb4 (s_X0_takeIn gB_ mk_ mx_ ((zShl 1 x4)) ((to (x4).toNatClampNeg))) fun (v12 : Int32) (gB13 : zF) (mk14 : zF) (mx15 : zF) => zl (x4 + 1) fun (x17 : Int32) => (s_X4_keepWhole_b10 to n10 gM_ gB13 mk14 mx15 (x3) (x17))))
def s_X4_keepWhole (gM : zF) (gB : zF) (mk : zF) (mx : zF) (to : zF) (p1 : Int32) (p2 : Int32) : Option ((zF) × (zF) × (zF) × (zF)) := zb4 (s_X4_keep gM gB mk mx (p1) (p2) (0)) fun (gM1 : zF) (gB2 : zF) (mk3 : zF) (mx4 : zF) => (s_X4_keepWhole_b10 to 13 gM1 gB2 mk3 mx4 (p2) (0))
abbrev rm_X4_keepWhole : Room := { frames := 3, cells := 0, slots := 0, locals := 68 }
set_option maxHeartbeats 4000000 in
set_option maxRecDepth 100000 in
theorem c_X4_keepWhole (l : Launch) (dD : va_G) (cI cA : ClassId) (q : Nat → Nat) (aR : Nat) (aD : Nat) (ca : Option Nat) (aT : Nat) (gM : zF) (gB : zF) (mk : zF) (mx : zF) (to : zF) (p1 : Int32) (p2 : Int32) (r_gM : zF) (r_gB : zF) (r_mk : zF) (r_mx : zF) (hsp : s_X4_keepWhole gM gB mk mx to p1 p2 = some (r_gM, r_gB, r_mk, r_mx)) : zMv l yX4_keepWhole wsX4_keepWhole rm_X4_keepWhole dD cI cA [.ref (q 0), .int p1, .ref aT, .int p2] ([zM q aR aD ca gM, zB q gB, zA cI (q 2) 12 mk, zA cI (q 3) 12 mx, zA cI aT 12 to]) ([zM q aR aD ca r_gM, zB q r_gB, zA cI (q 2) 12 r_mk, zA cI (q 3) 12 r_mx, zA cI aT 12 to]) := by
  refine zMv_of (cc := cX4_keepWhole) (maxL := 5) (by decide) rfl (Nat.le_of_ble_eq_true rfl) ?_
  intro p e s m args below meth c A Q ls hx hb hml hown hts hK hA hP hD hl hret
  have hown : s.vm.findClass RX4 = some m.cls := hown
  have iX4 : ∀ w ∈ wsX40, w ∈ wsX4_keepWhole := by decide +kernel
  have f12 := hts (.fieldLink RX4 12 "MeshField$Machine" "basis" "LMeshField$Basis;") (by decide +kernel)
  have f56 := hts (.fieldLink RX4 56 "MeshField$Machine" "keptSum" "I") (by decide +kernel)
  have hS : va_S A s.heap s.heap [] := va_S.rf
  have hl : lv_has ls 5 [(0, .ref (q 0)), (1, .int p1), (2, .ref aT), (3, .int p2)] := hl
  have K_45 : ∀ (H : Heap) (locs : List Loc) (ls : Array Slot) (gM_ : zF) (gB_ : zF) (mk_ : zF) (mx_ : zF), va_P dD vwCl ([zM q aR aD ca gM_, zB q gB_, zA cI (q 2) 12 mk_, zA cI (q 3) 12 mx_, zA cI aT 12 to]) H → va_D A ([zM q aR aD ca gM_, zB q gB_, zA cI (q 2) 12 mk_, zA cI (q 3) 12 mx_, zA cI aT 12 to]) → va_S A s.heap H locs → lv_has ls 5 [(0, .ref (q 0))] → s_X4_keepWhole_b45 to gM_ gB_ mk_ mx_ = some (r_gM, r_gB, r_mk, r_mx) → W p l e rm_X4_keepWhole s m args below meth c H locs 0 0 Q (F0 m 45 ls []) := by
    intro H locs ls gM_ gB_ mk_ mx_ hP hD hS hl hsp
    unfold s_X4_keepWhole_b45 at hsp
    refine lv_aload_n hx hb dX4_keepWhole_45 rfl (lv_at hl 0 rfl) ?_
    refine lv_aload_n hx hb dX4_keepWhole_46 rfl (lv_at hl 0 rfl) ?_
    refine va_get (D := dD) (ci := 4) (v := .ref (q 1)) (C := RX4) (T := TX4) (N := 18) hx hb hts iX4 hown hK.1 hP 0 rfl rfl 2 (by decide) f12 (fun _ h9 => h9) rfl dX4_keepWhole_47 ?_
    obtain ⟨v7, hc8, hsp⟩ := z_b1 hsp
    refine z_callVi ⟨hx, hb, hml, hown, hts⟩ hK (c_X0_sumOfPieces l dD cI cA q gB_ mx_ v7 hc8) (cwV 0 hts gX4_keepWhole_X0_sumOfPieces rfl rfl rfl (by decide +kernel) ⟨Nat.le_of_ble_eq_true rfl, Nat.le_of_ble_eq_true rfl⟩) (zJ.of (wc := [zB q gB_, zA cI (q 3) 12 mx_]) (wc1 := [zB q gB_, zA cI (q 3) 12 mx_]) (wr := [zM q aR aD ca gM_, zA cI (q 2) 12 mk_, zA cI aT 12 to]) (w2 := [zM q aR aD ca gM_, zB q gB_, zA cI (q 2) 12 mk_, zA cI (q 3) 12 mx_, zA cI aT 12 to]) hP hD hS hA [1, 3] [0, 2, 4] [0, 3, 1, 4, 2] rfl rfl rfl rfl rfl rfl rfl) hS 0 0 rfl rfl rfl rfl hl.1 rfl (Nat.le_of_ble_eq_true rfl) dX4_keepWhole_50 ⟨Nat.zero_le _, Nat.zero_le _⟩ (fun H locs hP hD hS => ?_)
    refine va_put (D := dD) (ci := 4) (v := .int v7) (ty := .int) (C := RX4) (T := TX4) (N := 18) hx hb hts iX4 tyX4 tyX4_ok nmX4 hown hK.1 hP hD hS 0 rfl rfl 8 (by decide) f56 (fun _ h9 => h9) rfl (by decide +kernel) rfl rfl (Nat.le_of_ble_eq_true rfl) dX4_keepWhole_53 (fun H locs hP hD hS => ?_)
    obtain ⟨gM9, egM9, hsp⟩ := z_lt hsp
    have hP : va_P dD vwCl ([zM q aR aD ca gM9, zB q gB_, zA cI (q 2) 12 mk_, zA cI (q 3) 12 mx_, zA cI aT 12 to]) H := by rw [egM9]; exact hP
    have hD : va_D A ([zM q aR aD ca gM9, zB q gB_, zA cI (q 2) 12 mk_, zA cI (q 3) 12 mx_, zA cI aT 12 to]) := by rw [egM9]; exact hD
    obtain ⟨rfl, rfl, rfl, rfl⟩ := z_i4 hsp
    exact hret _ _ ls 56 dX4_keepWhole_56 hP hD hS
  have K_10 : ∀ (n : Nat) (H : Heap) (locs : List Loc) (ls : Array Slot) (gM_ : zF) (gB_ : zF) (mk_ : zF) (mx_ : zF) (x3 : Int32) (x4 : Int32), va_P dD vwCl ([zM q aR aD ca gM_, zB q gB_, zA cI (q 2) 12 mk_, zA cI (q 3) 12 mx_, zA cI aT 12 to]) H → va_D A ([zM q aR aD ca gM_, zB q gB_, zA cI (q 2) 12 mk_, zA cI (q 3) 12 mx_, zA cI aT 12 to]) → va_S A s.heap H locs → lv_has ls 5 [(0, .ref (q 0)), (2, .ref aT), (3, .int x3), (4, .int x4)] → s_X4_keepWhole_b10 to n gM_ gB_ mk_ mx_ x3 x4 = some (r_gM, r_gB, r_mk, r_mx) → W p l e rm_X4_keepWhole s m args below meth c H locs 0 0 Q (F0 m 10 ls []) := by
    intro n
    induction n with
    | zero =>
      intro H locs ls gM_ gB_ mk_ mx_ x3 x4 hP hD hS hl hsp
      exact absurd (show (none : Option ((zF) × (zF) × (zF) × (zF))) = some (r_gM, r_gB, r_mk, r_mx) from hsp) (fun h => by cases h)
    | succ n10 ih10 =>
      intro H locs ls gM_ gB_ mk_ mx_ x3 x4 hP hD hS hl hsp
      rw [s_X4_keepWhole_b10] at hsp
      refine lv_iload hx hb dX4_keepWhole_10 (lv_at hl 3 rfl) ?_
      refine lv_iload_n hx hb dX4_keepWhole_12 rfl (lv_at hl 2 rfl) ?_
      refine lv_icmp_ge (tgt := 45) hx hb dX4_keepWhole_13 (by decide) (fun c6 => ?_) (fun c6 => ?_)
      · have hsp := z_t c6 hsp
        exact K_45 _ _ ls gM_ gB_ mk_ mx_ hP hD hS (lv_sub hl [0] rfl) hsp
      · have hsp := z_f c6 hsp
        refine lv_iload hx hb dX4_keepWhole_16 (lv_at hl 3 rfl) ?_
        refine lv_aload_n hx hb dX4_keepWhole_18 rfl (lv_at hl 1 rfl) ?_
        refine va_alen (v := 12) hx hb hK.1 hP 4 0 rfl rfl rfl dX4_keepWhole_19 ?_
        refine lv_icmp_ge (tgt := 45) hx hb dX4_keepWhole_20 (by decide) (fun c10 => ?_) (fun c10 => ?_)
        · have hsp := z_t c10 hsp
          exact K_45 _ _ ls gM_ gB_ mk_ mx_ hP hD hS (lv_sub hl [0] rfl) hsp
        · have hsp := z_f c10 hsp
          refine lv_aload_n hx hb dX4_keepWhole_23 rfl (lv_at hl 0 rfl) ?_
          refine va_get (D := dD) (ci := 4) (v := .ref (q 1)) (C := RX4) (T := TX4) (N := 18) hx hb hts iX4 hown hK.1 hP 0 rfl rfl 2 (by decide) f12 (fun _ h9 => h9) rfl dX4_keepWhole_24 ?_
          refine lv_iconst (v := 1) hx hb dX4_keepWhole_27 (by decide) ?_
          refine lv_iload hx hb dX4_keepWhole_28 (lv_at hl 3 rfl) ?_
          refine lv_ishl hx hb dX4_keepWhole_30 ?_
          refine z_top (y := (zShl 1 x4)) rfl ?_
          refine lv_aload_n hx hb dX4_keepWhole_31 rfl (lv_at hl 1 rfl) ?_
          refine lv_iload hx hb dX4_keepWhole_32 (lv_at hl 3 rfl) ?_
          obtain ⟨h11, hsp⟩ := z_in hsp
          refine va_iald hx hb hK.1 hP 4 0 rfl rfl h11 dX4_keepWhole_34 ?_
          obtain ⟨v12, gB13, mk14, mx15, hc16, hsp⟩ := z_b4 hsp
          refine z_callVi ⟨hx, hb, hml, hown, hts⟩ hK (c_X0_takeIn l dD cI cA q gB_ mk_ mx_ ((zShl 1 x4)) ((to (x4).toNatClampNeg)) v12 gB13 mk14 mx15 hc16) (cwV 2 hts gX4_keepWhole_X0_takeIn rfl rfl rfl (by decide +kernel) ⟨Nat.le_of_ble_eq_true rfl, Nat.le_of_ble_eq_true rfl⟩) (zJ.of (wc := [zB q gB_, zA cI (q 2) 12 mk_, zA cI (q 3) 12 mx_]) (wc1 := [zB q gB13, zA cI (q 2) 12 mk14, zA cI (q 3) 12 mx15]) (wr := [zM q aR aD ca gM_, zA cI aT 12 to]) (w2 := [zM q aR aD ca gM_, zB q gB13, zA cI (q 2) 12 mk14, zA cI (q 3) 12 mx15, zA cI aT 12 to]) hP hD hS hA [1, 2, 3] [0, 4] [0, 2, 3, 4, 1] rfl rfl rfl rfl rfl rfl rfl) hS 0 0 rfl rfl rfl rfl hl.1 rfl (Nat.le_of_ble_eq_true rfl) dX4_keepWhole_35 ⟨Nat.zero_le _, Nat.zero_le _⟩ (fun H locs hP hD hS => ?_)
          refine lv_pop hx hb dX4_keepWhole_38 rfl ?_
          obtain ⟨x17, ex17, hsp⟩ := z_lt hsp
          refine lv_iinc (v := x17) (lv' := [(4, .int x17), (0, .ref (q 0)), (2, .ref aT), (3, .int x3)]) hx hb dX4_keepWhole_39 hl (k := 3) rfl (by rw [ex17]; rfl) (by decide) rfl (fun ls hl => ?_)
          refine lv_goto (tgt := 10) hx hb dX4_keepWhole_42 (by decide) ?_
          exact ih10 _ _ ls gM_ gB13 mk14 mx15 (x3) (x17) hP hD hS (lv_sub hl [1, 2, 3, 0] rfl) hsp
  unfold s_X4_keepWhole at hsp
  refine lv_aload_n hx hb dX4_keepWhole_0 rfl (lv_at hl 0 rfl) ?_
  refine lv_iload_n hx hb dX4_keepWhole_1 rfl (lv_at hl 1 rfl) ?_
  refine lv_iload_n hx hb dX4_keepWhole_2 rfl (lv_at hl 3 rfl) ?_
  refine lv_iconst (v := 0) hx hb dX4_keepWhole_3 (by decide) ?_
  obtain ⟨gM1, gB2, mk3, mx4, hc5, hsp⟩ := z_b4 hsp
  refine z_callVv ⟨hx, hb, hml, hown, hts⟩ hK (c_X4_keep l dD cI cA q aR aD ca gM gB mk mx (p1) (p2) (0) gM1 gB2 mk3 mx4 hc5) (cwV 3 hts gX4_keepWhole_X4_keep rfl rfl rfl (by decide +kernel) ⟨Nat.le_of_ble_eq_true rfl, Nat.le_of_ble_eq_true rfl⟩) (zJ.of (wc := [zM q aR aD ca gM, zB q gB, zA cI (q 2) 12 mk, zA cI (q 3) 12 mx]) (wc1 := [zM q aR aD ca gM1, zB q gB2, zA cI (q 2) 12 mk3, zA cI (q 3) 12 mx4]) (wr := [zA cI aT 12 to]) (w2 := [zM q aR aD ca gM1, zB q gB2, zA cI (q 2) 12 mk3, zA cI (q 3) 12 mx4, zA cI aT 12 to]) hP hD hS hA [0, 1, 2, 3] [4] [1, 2, 3, 4, 0] rfl rfl rfl rfl rfl rfl rfl) hS 0 4 rfl rfl rfl rfl hl.1 rfl (Nat.le_of_ble_eq_true rfl) dX4_keepWhole_4 ⟨Nat.zero_le _, Nat.zero_le _⟩ (fun H locs hP hD hS => ?_)
  refine lv_iconst (v := 0) hx hb dX4_keepWhole_7 (by decide) ?_
  refine lv_istore (lv' := [(4, .int 0), (0, .ref (q 0)), (1, .int p1), (2, .ref aT), (3, .int p2)]) hx hb dX4_keepWhole_8 hl (by decide) rfl (fun ls hl => ?_)
  exact K_10 13 _ _ ls gM1 gB2 mk3 mx4 (p2) (0) hP hD hS (lv_sub hl [1, 3, 4, 0] rfl) hsp
def s_X4_isWhole (gM : zF) (gB : zF) : Option Int32 := (if (gM 6) = 0 then some (0) else (if (gB 2) = (gM 7) then some (1) else some (0)))
abbrev rm_X4_isWhole : Room := { frames := 0, cells := 0, slots := 0, locals := 0 }
set_option maxHeartbeats 4000000 in
set_option maxRecDepth 100000 in
theorem c_X4_isWhole (l : Launch) (dD : va_G) (cI cA : ClassId) (q : Nat → Nat) (aR : Nat) (aD : Nat) (ca : Option Nat) (gM : zF) (gB : zF) (rv : Int32) (hsp : s_X4_isWhole gM gB = some rv) : zMi l yX4_isWhole wsX4_isWhole rm_X4_isWhole dD cI cA [.ref (q 0)] ([zM q aR aD ca gM, zB q gB]) ([zM q aR aD ca gM, zB q gB]) rv := by
  refine zMi_of (cc := cX4_isWhole) (maxL := 1) (by decide) rfl (Nat.le_of_ble_eq_true rfl) ?_
  intro p e s m args below meth c A Q ls hx hb hml hown hts hK hA hP hD hl hret
  have hown : s.vm.findClass RX4 = some m.cls := hown
  have iX4 : ∀ w ∈ wsX40, w ∈ wsX4_isWhole := by decide +kernel
  have iX0 : ∀ w ∈ wsX00, w ∈ wsX4_isWhole := by decide +kernel
  have f59 := hts (.fieldLink RX4 59 "MeshField$Machine" "number" "I") (by decide +kernel)
  have f12 := hts (.fieldLink RX4 12 "MeshField$Machine" "basis" "LMeshField$Basis;") (by decide +kernel)
  have f68 : (Cond.fieldLinkNest RX4 68 "MeshField$Basis" "rank" "I" "MeshField").before args s = true := hK.nw (by decide +kernel)
  have f62 := hts (.fieldLink RX4 62 "MeshField$Machine" "pieces" "I") (by decide +kernel)
  have hS : va_S A s.heap s.heap [] := va_S.rf
  have hl : lv_has ls 1 [(0, .ref (q 0))] := hl
  unfold s_X4_isWhole at hsp
  refine lv_aload_n hx hb dX4_isWhole_0 rfl (lv_at hl 0 rfl) ?_
  refine va_get (D := dD) (ci := 4) (v := .int (gM 6)) (C := RX4) (T := TX4) (N := 18) hx hb hts iX4 hown hK.1 hP 0 rfl rfl 6 (by decide) f59 (fun _ h9 => h9) rfl dX4_isWhole_1 ?_
  refine lv_if_eq (tgt := 25) hx hb dX4_isWhole_4 (by decide) (fun c1 => ?_) (fun c1 => ?_)
  · have hsp := z_t c1 hsp
    refine lv_iconst (v := 0) hx hb dX4_isWhole_25 (by decide) ?_
    obtain rfl := Option.some.inj hsp
    exact hret _ _ ls 26 dX4_isWhole_26 rfl hP hD hS
  · have hsp := z_f c1 hsp
    refine lv_aload_n hx hb dX4_isWhole_7 rfl (lv_at hl 0 rfl) ?_
    refine va_get (D := dD) (ci := 4) (v := .ref (q 1)) (C := RX4) (T := TX4) (N := 18) hx hb hts iX4 hown hK.1 hP 0 rfl rfl 2 (by decide) f12 (fun _ h9 => h9) rfl dX4_isWhole_8 ?_
    refine va_getN (D := dD) (ci := 0) (v := .int (gB 2)) (C := RX0) (T := TX0) (N := 3) hx hb hts iX0 hown hK.1 hP 1 rfl rfl 2 (by decide) f68 (fun _ h9 => h9) rfl dX4_isWhole_11 ?_
    refine lv_aload_n hx hb dX4_isWhole_14 rfl (lv_at hl 0 rfl) ?_
    refine va_get (D := dD) (ci := 4) (v := .int (gM 7)) (C := RX4) (T := TX4) (N := 18) hx hb hts iX4 hown hK.1 hP 0 rfl rfl 7 (by decide) f62 (fun _ h9 => h9) rfl dX4_isWhole_15 ?_
    refine lv_icmp_ne (tgt := 25) hx hb dX4_isWhole_18 (by decide) (fun c2 => ?_) (fun c2 => ?_)
    · have hsp := z_f c2 hsp
      refine lv_iconst (v := 0) hx hb dX4_isWhole_25 (by decide) ?_
      obtain rfl := Option.some.inj hsp
      exact hret _ _ ls 26 dX4_isWhole_26 rfl hP hD hS
    · have hsp := z_t c2 hsp
      refine lv_iconst (v := 1) hx hb dX4_isWhole_21 (by decide) ?_
      refine lv_goto (tgt := 26) hx hb dX4_isWhole_22 (by decide) ?_
      obtain rfl := Option.some.inj hsp
      exact hret _ _ ls 26 dX4_isWhole_26 rfl hP hD hS
def s_X4_isWholeOf (gM : zF) (gB : zF) (p1 : Int32) : Option Int32 := (if (gM 6) = p1 then zb1 (s_X4_isWhole gM gB) fun (v2 : Int32) => (if v2 = 0 then some (0) else some (1)) else some (0))
abbrev rm_X4_isWholeOf : Room := { frames := 1, cells := 0, slots := 0, locals := 20 }
set_option maxHeartbeats 4000000 in
set_option maxRecDepth 100000 in
theorem c_X4_isWholeOf (l : Launch) (dD : va_G) (cI cA : ClassId) (q : Nat → Nat) (aR : Nat) (aD : Nat) (ca : Option Nat) (gM : zF) (gB : zF) (p1 : Int32) (rv : Int32) (hsp : s_X4_isWholeOf gM gB p1 = some rv) : zMi l yX4_isWholeOf wsX4_isWholeOf rm_X4_isWholeOf dD cI cA [.ref (q 0), .int p1] ([zM q aR aD ca gM, zB q gB]) ([zM q aR aD ca gM, zB q gB]) rv := by
  refine zMi_of (cc := cX4_isWholeOf) (maxL := 2) (by decide) rfl (Nat.le_of_ble_eq_true rfl) ?_
  intro p e s m args below meth c A Q ls hx hb hml hown hts hK hA hP hD hl hret
  have hown : s.vm.findClass RX4 = some m.cls := hown
  have iX4 : ∀ w ∈ wsX40, w ∈ wsX4_isWholeOf := by decide +kernel
  have f59 := hts (.fieldLink RX4 59 "MeshField$Machine" "number" "I") (by decide +kernel)
  have hS : va_S A s.heap s.heap [] := va_S.rf
  have hl : lv_has ls 2 [(0, .ref (q 0)), (1, .int p1)] := hl
  unfold s_X4_isWholeOf at hsp
  refine lv_aload_n hx hb dX4_isWholeOf_0 rfl (lv_at hl 0 rfl) ?_
  refine va_get (D := dD) (ci := 4) (v := .int (gM 6)) (C := RX4) (T := TX4) (N := 18) hx hb hts iX4 hown hK.1 hP 0 rfl rfl 6 (by decide) f59 (fun _ h9 => h9) rfl dX4_isWholeOf_1 ?_
  refine lv_iload_n hx hb dX4_isWholeOf_4 rfl (lv_at hl 1 rfl) ?_
  refine lv_icmp_ne (tgt := 19) hx hb dX4_isWholeOf_5 (by decide) (fun c1 => ?_) (fun c1 => ?_)
  · have hsp := z_f c1 hsp
    refine lv_iconst (v := 0) hx hb dX4_isWholeOf_19 (by decide) ?_
    obtain rfl := Option.some.inj hsp
    exact hret _ _ ls 20 dX4_isWholeOf_20 rfl hP hD hS
  · have hsp := z_t c1 hsp
    refine lv_aload_n hx hb dX4_isWholeOf_8 rfl (lv_at hl 0 rfl) ?_
    obtain ⟨v2, hc3, hsp⟩ := z_b1 hsp
    refine z_callVi ⟨hx, hb, hml, hown, hts⟩ hK (c_X4_isWhole l dD cI cA q aR aD ca gM gB v2 hc3) (cwV 0 hts gX4_isWholeOf_X4_isWhole rfl rfl rfl (by decide +kernel) ⟨Nat.le_of_ble_eq_true rfl, Nat.le_of_ble_eq_true rfl⟩) (zJ.of (wc := [zM q aR aD ca gM, zB q gB]) (wc1 := [zM q aR aD ca gM, zB q gB]) (wr := []) (w2 := [zM q aR aD ca gM, zB q gB]) hP hD hS hA [0, 1] [] [0, 1] rfl rfl rfl rfl rfl rfl rfl) hS 0 4 rfl rfl rfl rfl hl.1 rfl (Nat.le_of_ble_eq_true rfl) dX4_isWholeOf_9 ⟨Nat.zero_le _, Nat.zero_le _⟩ (fun H locs hP hD hS => ?_)
    refine lv_if_eq (tgt := 19) hx hb dX4_isWholeOf_12 (by decide) (fun c4 => ?_) (fun c4 => ?_)
    · have hsp := z_t c4 hsp
      refine lv_iconst (v := 0) hx hb dX4_isWholeOf_19 (by decide) ?_
      obtain rfl := Option.some.inj hsp
      exact hret _ _ ls 20 dX4_isWholeOf_20 rfl hP hD hS
    · have hsp := z_f c4 hsp
      refine lv_iconst (v := 1) hx hb dX4_isWholeOf_15 (by decide) ?_
      refine lv_goto (tgt := 20) hx hb dX4_isWholeOf_16 (by decide) ?_
      obtain rfl := Option.some.inj hsp
      exact hret _ _ ls 20 dX4_isWholeOf_20 rfl hP hD hS
def s_X4_stir (gM : zF) (gI : zF) (gR : zF) (gD : zF) (p1 : Int32) : Option ((zF) × (zF)) := (if (gI 0) ≤ (gR 1) then some (gI, gD) else zb2 (s_X2_begin gI gD ((gR 1)) ((p1 + 1))) fun (gI2 : zF) (gD3 : zF) => some (gI2, gD3))
abbrev rm_X4_stir : Room := { frames := 2, cells := 0, slots := 0, locals := 44 }
set_option maxHeartbeats 4000000 in
set_option maxRecDepth 100000 in
theorem c_X4_stir (l : Launch) (dD : va_G) (cI cA : ClassId) (q : Nat → Nat) (aR : Nat) (aD : Nat) (ca : Option Nat) (gM : zF) (gI : zF) (gR : zF) (gD : zF) (p1 : Int32) (r_gI : zF) (r_gD : zF) (hsp : s_X4_stir gM gI gR gD p1 = some (r_gI, r_gD)) : zMv l yX4_stir wsX4_stir rm_X4_stir dD cI cA [.ref (q 0), .int p1] ([zM q aR aD ca gM, zI q gI, zR aR gR, zD aD gD]) ([zM q aR aD ca gM, zI q r_gI, zR aR gR, zD aD r_gD]) := by
  refine zMv_of (cc := cX4_stir) (maxL := 2) (by decide) rfl (Nat.le_of_ble_eq_true rfl) ?_
  intro p e s m args below meth c A Q ls hx hb hml hown hts hK hA hP hD hl hret
  have hown : s.vm.findClass RX4 = some m.cls := hown
  have iX4 : ∀ w ∈ wsX40, w ∈ wsX4_stir := by decide +kernel
  have iX2 : ∀ w ∈ wsX20, w ∈ wsX4_stir := by decide +kernel
  have iX5 : ∀ w ∈ wsX50, w ∈ wsX4_stir := by decide +kernel
  have f21 := hts (.fieldLink RX4 21 "MeshField$Machine" "interval" "LMeshField$Interval;") (by decide +kernel)
  have f75 : (Cond.fieldLinkNest RX4 75 "MeshField$Interval" "span" "I" "MeshField").before args s = true := hK.nw (by decide +kernel)
  have f36 := hts (.fieldLink RX4 36 "MeshField$Machine" "rules" "LMeshField$Rules;") (by decide +kernel)
  have f78 : (Cond.fieldLinkNest RX4 78 "MeshField$Rules" "low" "I" "MeshField").before args s = true := hK.nw (by decide +kernel)
  have f40 := hts (.fieldLink RX4 40 "MeshField$Machine" "draws" "LMeshField$Draws;") (by decide +kernel)
  have hS : va_S A s.heap s.heap [] := va_S.rf
  have hl : lv_has ls 2 [(0, .ref (q 0)), (1, .int p1)] := hl
  unfold s_X4_stir at hsp
  refine lv_aload_n hx hb dX4_stir_0 rfl (lv_at hl 0 rfl) ?_
  refine va_get (D := dD) (ci := 4) (v := .ref (q 4)) (C := RX4) (T := TX4) (N := 18) hx hb hts iX4 hown hK.1 hP 0 rfl rfl 3 (by decide) f21 (fun _ h9 => h9) rfl dX4_stir_1 ?_
  refine va_getN (D := dD) (ci := 2) (v := .int (gI 0)) (C := RX2) (T := TX2) (N := 4) hx hb hts iX2 hown hK.1 hP 1 rfl rfl 0 (by decide) f75 (fun _ h9 => h9) rfl dX4_stir_4 ?_
  refine lv_aload_n hx hb dX4_stir_7 rfl (lv_at hl 0 rfl) ?_
  refine va_get (D := dD) (ci := 4) (v := .ref aR) (C := RX4) (T := TX4) (N := 18) hx hb hts iX4 hown hK.1 hP 0 rfl rfl 0 (by decide) f36 (fun _ h9 => h9) rfl dX4_stir_8 ?_
  refine va_getN (D := dD) (ci := 5) (v := .int (gR 1)) (C := RX5) (T := TX5) (N := 4) hx hb hts iX5 hown hK.1 hP 2 rfl rfl 1 (by decide) f78 (fun _ h9 => h9) rfl dX4_stir_11 ?_
  refine lv_icmp_le (tgt := 38) hx hb dX4_stir_14 (by decide) (fun c1 => ?_) (fun c1 => ?_)
  · have hsp := z_t c1 hsp
    obtain ⟨rfl, rfl⟩ := z_i2 hsp
    exact hret _ _ ls 38 dX4_stir_38 hP hD hS
  · have hsp := z_f c1 hsp
    refine lv_aload_n hx hb dX4_stir_17 rfl (lv_at hl 0 rfl) ?_
    refine va_get (D := dD) (ci := 4) (v := .ref (q 4)) (C := RX4) (T := TX4) (N := 18) hx hb hts iX4 hown hK.1 hP 0 rfl rfl 3 (by decide) f21 (fun _ h9 => h9) rfl dX4_stir_18 ?_
    refine lv_aload_n hx hb dX4_stir_21 rfl (lv_at hl 0 rfl) ?_
    refine va_get (D := dD) (ci := 4) (v := .ref aR) (C := RX4) (T := TX4) (N := 18) hx hb hts iX4 hown hK.1 hP 0 rfl rfl 0 (by decide) f36 (fun _ h9 => h9) rfl dX4_stir_22 ?_
    refine va_getN (D := dD) (ci := 5) (v := .int (gR 1)) (C := RX5) (T := TX5) (N := 4) hx hb hts iX5 hown hK.1 hP 2 rfl rfl 1 (by decide) f78 (fun _ h9 => h9) rfl dX4_stir_25 ?_
    refine lv_iload_n hx hb dX4_stir_28 rfl (lv_at hl 1 rfl) ?_
    refine lv_iconst (v := 1) hx hb dX4_stir_29 (by decide) ?_
    refine lv_iadd hx hb dX4_stir_30 ?_
    refine lv_aload_n hx hb dX4_stir_31 rfl (lv_at hl 0 rfl) ?_
    refine va_get (D := dD) (ci := 4) (v := .ref aD) (C := RX4) (T := TX4) (N := 18) hx hb hts iX4 hown hK.1 hP 0 rfl rfl 1 (by decide) f40 (fun _ h9 => h9) rfl dX4_stir_32 ?_
    obtain ⟨gI2, gD3, hc4, hsp⟩ := z_b2 hsp
    refine z_callVv ⟨hx, hb, hml, hown, hts⟩ hK (c_X2_begin l dD cI cA q aD gI gD ((gR 1)) ((p1 + 1)) gI2 gD3 hc4) (cwV 3 hts gX4_stir_X2_begin rfl rfl rfl (by decide +kernel) ⟨Nat.le_of_ble_eq_true rfl, Nat.le_of_ble_eq_true rfl⟩) (zJ.of (wc := [zI q gI, zD aD gD]) (wc1 := [zI q gI2, zD aD gD3]) (wr := [zM q aR aD ca gM, zR aR gR]) (w2 := [zM q aR aD ca gM, zI q gI2, zR aR gR, zD aD gD3]) hP hD hS hA [1, 3] [0, 2] [0, 2, 1, 3] rfl rfl rfl rfl rfl rfl rfl) hS 0 2 rfl rfl rfl rfl hl.1 rfl (Nat.le_of_ble_eq_true rfl) dX4_stir_35 ⟨Nat.zero_le _, Nat.zero_le _⟩ (fun H locs hP hD hS => ?_)
    obtain ⟨rfl, rfl⟩ := z_i2 hsp
    exact hret _ _ ls 38 dX4_stir_38 hP hD hS
def s_X4_takeTurn (gM : zF) (p1 : Int32) (p2 : Int32) : Option (Int32 × (zF)) := (if (gM 11) < p1 then zl (va_up gM 11 (p1)) fun (gM2 : zF) => zl (va_up gM2 12 (p2)) fun (gM3 : zF) => some (1, gM3) else some (0, gM))
abbrev rm_X4_takeTurn : Room := { frames := 0, cells := 0, slots := 0, locals := 0 }
set_option maxHeartbeats 4000000 in
set_option maxRecDepth 100000 in
theorem c_X4_takeTurn (l : Launch) (dD : va_G) (cI cA : ClassId) (q : Nat → Nat) (aR : Nat) (aD : Nat) (ca : Option Nat) (gM : zF) (p1 : Int32) (p2 : Int32) (rv : Int32) (r_gM : zF) (hsp : s_X4_takeTurn gM p1 p2 = some (rv, r_gM)) : zMi l yX4_takeTurn wsX4_takeTurn rm_X4_takeTurn dD cI cA [.ref (q 0), .int p1, .int p2] ([zM q aR aD ca gM]) ([zM q aR aD ca r_gM]) rv := by
  refine zMi_of (cc := cX4_takeTurn) (maxL := 3) (by decide) rfl (Nat.le_of_ble_eq_true rfl) ?_
  intro p e s m args below meth c A Q ls hx hb hml hown hts hK hA hP hD hl hret
  have hown : s.vm.findClass RX4 = some m.cls := hown
  have iX4 : ∀ w ∈ wsX40, w ∈ wsX4_takeTurn := by decide +kernel
  have f87 := hts (.fieldLink RX4 87 "MeshField$Machine" "turnNumber" "I") (by decide +kernel)
  have f90 := hts (.fieldLink RX4 90 "MeshField$Machine" "turnTick" "I") (by decide +kernel)
  have hS : va_S A s.heap s.heap [] := va_S.rf
  have hl : lv_has ls 3 [(0, .ref (q 0)), (1, .int p1), (2, .int p2)] := hl
  unfold s_X4_takeTurn at hsp
  refine lv_iload_n hx hb dX4_takeTurn_0 rfl (lv_at hl 1 rfl) ?_
  refine lv_aload_n hx hb dX4_takeTurn_1 rfl (lv_at hl 0 rfl) ?_
  refine va_get (D := dD) (ci := 4) (v := .int (gM 11)) (C := RX4) (T := TX4) (N := 18) hx hb hts iX4 hown hK.1 hP 0 rfl rfl 11 (by decide) f87 (fun _ h9 => h9) rfl dX4_takeTurn_2 ?_
  refine lv_icmp_gt (tgt := 10) hx hb dX4_takeTurn_5 (by decide) (fun c1 => ?_) (fun c1 => ?_)
  · have hsp := z_t c1 hsp
    refine lv_aload_n hx hb dX4_takeTurn_10 rfl (lv_at hl 0 rfl) ?_
    refine lv_iload_n hx hb dX4_takeTurn_11 rfl (lv_at hl 1 rfl) ?_
    refine va_put (D := dD) (ci := 4) (v := .int p1) (ty := .int) (C := RX4) (T := TX4) (N := 18) hx hb hts iX4 tyX4 tyX4_ok nmX4 hown hK.1 hP hD hS 0 rfl rfl 11 (by decide) f87 (fun _ h9 => h9) rfl (by decide +kernel) rfl rfl (Nat.le_of_ble_eq_true rfl) dX4_takeTurn_12 (fun H locs hP hD hS => ?_)
    obtain ⟨gM2, egM2, hsp⟩ := z_lt hsp
    have hP : va_P dD vwCl ([zM q aR aD ca gM2]) H := by rw [egM2]; exact hP
    have hD : va_D A ([zM q aR aD ca gM2]) := by rw [egM2]; exact hD
    refine lv_aload_n hx hb dX4_takeTurn_15 rfl (lv_at hl 0 rfl) ?_
    refine lv_iload_n hx hb dX4_takeTurn_16 rfl (lv_at hl 2 rfl) ?_
    refine va_put (D := dD) (ci := 4) (v := .int p2) (ty := .int) (C := RX4) (T := TX4) (N := 18) hx hb hts iX4 tyX4 tyX4_ok nmX4 hown hK.1 hP hD hS 0 rfl rfl 12 (by decide) f90 (fun _ h9 => h9) rfl (by decide +kernel) rfl rfl (Nat.le_of_ble_eq_true rfl) dX4_takeTurn_17 (fun H locs hP hD hS => ?_)
    obtain ⟨gM3, egM3, hsp⟩ := z_lt hsp
    have hP : va_P dD vwCl ([zM q aR aD ca gM3]) H := by rw [egM3]; exact hP
    have hD : va_D A ([zM q aR aD ca gM3]) := by rw [egM3]; exact hD
    refine lv_iconst (v := 1) hx hb dX4_takeTurn_20 (by decide) ?_
    obtain ⟨rfl, rfl⟩ := z_i2 hsp
    exact hret _ _ ls 21 dX4_takeTurn_21 rfl hP hD hS
  · have hsp := z_f c1 hsp
    refine lv_iconst (v := 0) hx hb dX4_takeTurn_8 (by decide) ?_
    obtain ⟨rfl, rfl⟩ := z_i2 hsp
    exact hret _ _ ls 9 dX4_takeTurn_9 rfl hP hD hS
def s_X4_losePower_b11 (gR : zF) (gM_ : zF) (gB_ : zF) (mk_ : zF) (mx_ : zF) (gI_ : zF) (gD_ : zF) (x2 : Int32) : Option ((zF) × (zF) × (zF) × (zF) × (zF) × (zF)) := zb2 (s_X2_begin gI_ gD_ ((gR 1)) (x2)) fun (gI2 : zF) (gD3 : zF) => zl (va_up gM_ 10 ((-1))) fun (gM5 : zF) => zl (va_up gM5 11 (0)) fun (gM6 : zF) => zl (va_up gM6 12 (0)) fun (gM7 : zF) => some (gM7, gB_, mk_, mx_, gI2, gD3)
def s_X4_losePower (gM : zF) (gB : zF) (mk : zF) (mx : zF) (gI : zF) (gR : zF) (gD : zF) (p1 : Int32) (p2 : Int32) : Option ((zF) × (zF) × (zF) × (zF) × (zF) × (zF)) := (if p1 = 0 then (s_X4_losePower_b11 gR gM gB mk mx gI gD (p2)) else zb3 (s_X0_tearLeast gB mk mx) fun (gB8 : zF) (mk9 : zF) (mx10 : zF) => (s_X4_losePower_b11 gR gM gB8 mk9 mx10 gI gD (p2)))
abbrev rm_X4_losePower : Room := { frames := 2, cells := 0, slots := 0, locals := 44 }
set_option maxHeartbeats 4000000 in
set_option maxRecDepth 100000 in
theorem c_X4_losePower (l : Launch) (dD : va_G) (cI cA : ClassId) (q : Nat → Nat) (aR : Nat) (aD : Nat) (ca : Option Nat) (gM : zF) (gB : zF) (mk : zF) (mx : zF) (gI : zF) (gR : zF) (gD : zF) (p1 : Int32) (p2 : Int32) (r_gM : zF) (r_gB : zF) (r_mk : zF) (r_mx : zF) (r_gI : zF) (r_gD : zF) (hsp : s_X4_losePower gM gB mk mx gI gR gD p1 p2 = some (r_gM, r_gB, r_mk, r_mx, r_gI, r_gD)) : zMv l yX4_losePower wsX4_losePower rm_X4_losePower dD cI cA [.ref (q 0), .int p1, .int p2] ([zM q aR aD ca gM, zB q gB, zA cI (q 2) 12 mk, zA cI (q 3) 12 mx, zI q gI, zR aR gR, zD aD gD]) ([zM q aR aD ca r_gM, zB q r_gB, zA cI (q 2) 12 r_mk, zA cI (q 3) 12 r_mx, zI q r_gI, zR aR gR, zD aD r_gD]) := by
  refine zMv_of (cc := cX4_losePower) (maxL := 3) (by decide) rfl (Nat.le_of_ble_eq_true rfl) ?_
  intro p e s m args below meth c A Q ls hx hb hml hown hts hK hA hP hD hl hret
  have hown : s.vm.findClass RX4 = some m.cls := hown
  have iX4 : ∀ w ∈ wsX40, w ∈ wsX4_losePower := by decide +kernel
  have iX5 : ∀ w ∈ wsX50, w ∈ wsX4_losePower := by decide +kernel
  have f21 := hts (.fieldLink RX4 21 "MeshField$Machine" "interval" "LMeshField$Interval;") (by decide +kernel)
  have f36 := hts (.fieldLink RX4 36 "MeshField$Machine" "rules" "LMeshField$Rules;") (by decide +kernel)
  have f78 : (Cond.fieldLinkNest RX4 78 "MeshField$Rules" "low" "I" "MeshField").before args s = true := hK.nw (by decide +kernel)
  have f40 := hts (.fieldLink RX4 40 "MeshField$Machine" "draws" "LMeshField$Draws;") (by decide +kernel)
  have f32 := hts (.fieldLink RX4 32 "MeshField$Machine" "dataAt" "I") (by decide +kernel)
  have f87 := hts (.fieldLink RX4 87 "MeshField$Machine" "turnNumber" "I") (by decide +kernel)
  have f90 := hts (.fieldLink RX4 90 "MeshField$Machine" "turnTick" "I") (by decide +kernel)
  have f12 := hts (.fieldLink RX4 12 "MeshField$Machine" "basis" "LMeshField$Basis;") (by decide +kernel)
  have hS : va_S A s.heap s.heap [] := va_S.rf
  have hl : lv_has ls 3 [(0, .ref (q 0)), (1, .int p1), (2, .int p2)] := hl
  have K_11 : ∀ (H : Heap) (locs : List Loc) (ls : Array Slot) (gM_ : zF) (gB_ : zF) (mk_ : zF) (mx_ : zF) (gI_ : zF) (gD_ : zF) (x2 : Int32), va_P dD vwCl ([zM q aR aD ca gM_, zB q gB_, zA cI (q 2) 12 mk_, zA cI (q 3) 12 mx_, zI q gI_, zR aR gR, zD aD gD_]) H → va_D A ([zM q aR aD ca gM_, zB q gB_, zA cI (q 2) 12 mk_, zA cI (q 3) 12 mx_, zI q gI_, zR aR gR, zD aD gD_]) → va_S A s.heap H locs → lv_has ls 3 [(0, .ref (q 0)), (2, .int x2)] → s_X4_losePower_b11 gR gM_ gB_ mk_ mx_ gI_ gD_ x2 = some (r_gM, r_gB, r_mk, r_mx, r_gI, r_gD) → W p l e rm_X4_losePower s m args below meth c H locs 0 0 Q (F0 m 11 ls []) := by
    intro H locs ls gM_ gB_ mk_ mx_ gI_ gD_ x2 hP hD hS hl hsp
    unfold s_X4_losePower_b11 at hsp
    refine lv_aload_n hx hb dX4_losePower_11 rfl (lv_at hl 0 rfl) ?_
    refine va_get (D := dD) (ci := 4) (v := .ref (q 4)) (C := RX4) (T := TX4) (N := 18) hx hb hts iX4 hown hK.1 hP 0 rfl rfl 3 (by decide) f21 (fun _ h9 => h9) rfl dX4_losePower_12 ?_
    refine lv_aload_n hx hb dX4_losePower_15 rfl (lv_at hl 0 rfl) ?_
    refine va_get (D := dD) (ci := 4) (v := .ref aR) (C := RX4) (T := TX4) (N := 18) hx hb hts iX4 hown hK.1 hP 0 rfl rfl 0 (by decide) f36 (fun _ h9 => h9) rfl dX4_losePower_16 ?_
    refine va_getN (D := dD) (ci := 5) (v := .int (gR 1)) (C := RX5) (T := TX5) (N := 4) hx hb hts iX5 hown hK.1 hP 5 rfl rfl 1 (by decide) f78 (fun _ h9 => h9) rfl dX4_losePower_19 ?_
    refine lv_iload_n hx hb dX4_losePower_22 rfl (lv_at hl 1 rfl) ?_
    refine lv_aload_n hx hb dX4_losePower_23 rfl (lv_at hl 0 rfl) ?_
    refine va_get (D := dD) (ci := 4) (v := .ref aD) (C := RX4) (T := TX4) (N := 18) hx hb hts iX4 hown hK.1 hP 0 rfl rfl 1 (by decide) f40 (fun _ h9 => h9) rfl dX4_losePower_24 ?_
    obtain ⟨gI2, gD3, hc4, hsp⟩ := z_b2 hsp
    refine z_callVv ⟨hx, hb, hml, hown, hts⟩ hK (c_X2_begin l dD cI cA q aD gI_ gD_ ((gR 1)) (x2) gI2 gD3 hc4) (cwV 3 hts gX4_losePower_X2_begin rfl rfl rfl (by decide +kernel) ⟨Nat.le_of_ble_eq_true rfl, Nat.le_of_ble_eq_true rfl⟩) (zJ.of (wc := [zI q gI_, zD aD gD_]) (wc1 := [zI q gI2, zD aD gD3]) (wr := [zM q aR aD ca gM_, zB q gB_, zA cI (q 2) 12 mk_, zA cI (q 3) 12 mx_, zR aR gR]) (w2 := [zM q aR aD ca gM_, zB q gB_, zA cI (q 2) 12 mk_, zA cI (q 3) 12 mx_, zI q gI2, zR aR gR, zD aD gD3]) hP hD hS hA [4, 6] [0, 1, 2, 3, 5] [0, 1, 2, 3, 5, 4, 6] rfl rfl rfl rfl rfl rfl rfl) hS 0 2 rfl rfl rfl rfl hl.1 rfl (Nat.le_of_ble_eq_true rfl) dX4_losePower_27 ⟨Nat.zero_le _, Nat.zero_le _⟩ (fun H locs hP hD hS => ?_)
    refine lv_aload_n hx hb dX4_losePower_30 rfl (lv_at hl 0 rfl) ?_
    refine lv_iconst (v := (-1)) hx hb dX4_losePower_31 (by decide) ?_
    refine va_put (D := dD) (ci := 4) (v := .int (-1)) (ty := .int) (C := RX4) (T := TX4) (N := 18) hx hb hts iX4 tyX4 tyX4_ok nmX4 hown hK.1 hP hD hS 0 rfl rfl 10 (by decide) f32 (fun _ h9 => h9) rfl (by decide +kernel) rfl rfl (Nat.le_of_ble_eq_true rfl) dX4_losePower_32 (fun H locs hP hD hS => ?_)
    obtain ⟨gM5, egM5, hsp⟩ := z_lt hsp
    have hP : va_P dD vwCl ([zM q aR aD ca gM5, zB q gB_, zA cI (q 2) 12 mk_, zA cI (q 3) 12 mx_, zI q gI2, zR aR gR, zD aD gD3]) H := by rw [egM5]; exact hP
    have hD : va_D A ([zM q aR aD ca gM5, zB q gB_, zA cI (q 2) 12 mk_, zA cI (q 3) 12 mx_, zI q gI2, zR aR gR, zD aD gD3]) := by rw [egM5]; exact hD
    refine lv_aload_n hx hb dX4_losePower_35 rfl (lv_at hl 0 rfl) ?_
    refine lv_iconst (v := 0) hx hb dX4_losePower_36 (by decide) ?_
    refine va_put (D := dD) (ci := 4) (v := .int 0) (ty := .int) (C := RX4) (T := TX4) (N := 18) hx hb hts iX4 tyX4 tyX4_ok nmX4 hown hK.1 hP hD hS 0 rfl rfl 11 (by decide) f87 (fun _ h9 => h9) rfl (by decide +kernel) rfl rfl (Nat.le_of_ble_eq_true rfl) dX4_losePower_37 (fun H locs hP hD hS => ?_)
    obtain ⟨gM6, egM6, hsp⟩ := z_lt hsp
    have hP : va_P dD vwCl ([zM q aR aD ca gM6, zB q gB_, zA cI (q 2) 12 mk_, zA cI (q 3) 12 mx_, zI q gI2, zR aR gR, zD aD gD3]) H := by rw [egM6]; exact hP
    have hD : va_D A ([zM q aR aD ca gM6, zB q gB_, zA cI (q 2) 12 mk_, zA cI (q 3) 12 mx_, zI q gI2, zR aR gR, zD aD gD3]) := by rw [egM6]; exact hD
    refine lv_aload_n hx hb dX4_losePower_40 rfl (lv_at hl 0 rfl) ?_
    refine lv_iconst (v := 0) hx hb dX4_losePower_41 (by decide) ?_
    refine va_put (D := dD) (ci := 4) (v := .int 0) (ty := .int) (C := RX4) (T := TX4) (N := 18) hx hb hts iX4 tyX4 tyX4_ok nmX4 hown hK.1 hP hD hS 0 rfl rfl 12 (by decide) f90 (fun _ h9 => h9) rfl (by decide +kernel) rfl rfl (Nat.le_of_ble_eq_true rfl) dX4_losePower_42 (fun H locs hP hD hS => ?_)
    obtain ⟨gM7, egM7, hsp⟩ := z_lt hsp
    have hP : va_P dD vwCl ([zM q aR aD ca gM7, zB q gB_, zA cI (q 2) 12 mk_, zA cI (q 3) 12 mx_, zI q gI2, zR aR gR, zD aD gD3]) H := by rw [egM7]; exact hP
    have hD : va_D A ([zM q aR aD ca gM7, zB q gB_, zA cI (q 2) 12 mk_, zA cI (q 3) 12 mx_, zI q gI2, zR aR gR, zD aD gD3]) := by rw [egM7]; exact hD
    obtain ⟨rfl, rfl, rfl, rfl, rfl, rfl⟩ := z_i6 hsp
    exact hret _ _ ls 45 dX4_losePower_45 hP hD hS
  unfold s_X4_losePower at hsp
  refine lv_iload_n hx hb dX4_losePower_0 rfl (lv_at hl 1 rfl) ?_
  refine lv_if_eq (tgt := 11) hx hb dX4_losePower_1 (by decide) (fun c1 => ?_) (fun c1 => ?_)
  · have hsp := z_t c1 hsp
    exact K_11 _ _ ls gM gB mk mx gI gD (p2) hP hD hS (lv_sub hl [0, 2] rfl) hsp
  · have hsp := z_f c1 hsp
    refine lv_aload_n hx hb dX4_losePower_4 rfl (lv_at hl 0 rfl) ?_
    refine va_get (D := dD) (ci := 4) (v := .ref (q 1)) (C := RX4) (T := TX4) (N := 18) hx hb hts iX4 hown hK.1 hP 0 rfl rfl 2 (by decide) f12 (fun _ h9 => h9) rfl dX4_losePower_5 ?_
    obtain ⟨gB8, mk9, mx10, hc11, hsp⟩ := z_b3 hsp
    refine z_callVv ⟨hx, hb, hml, hown, hts⟩ hK (c_X0_tearLeast l dD cI cA q gB mk mx gB8 mk9 mx10 hc11) (cwV 0 hts gX4_losePower_X0_tearLeast rfl rfl rfl (by decide +kernel) ⟨Nat.le_of_ble_eq_true rfl, Nat.le_of_ble_eq_true rfl⟩) (zJ.of (wc := [zB q gB, zA cI (q 2) 12 mk, zA cI (q 3) 12 mx]) (wc1 := [zB q gB8, zA cI (q 2) 12 mk9, zA cI (q 3) 12 mx10]) (wr := [zM q aR aD ca gM, zI q gI, zR aR gR, zD aD gD]) (w2 := [zM q aR aD ca gM, zB q gB8, zA cI (q 2) 12 mk9, zA cI (q 3) 12 mx10, zI q gI, zR aR gR, zD aD gD]) hP hD hS hA [1, 2, 3] [0, 4, 5, 6] [0, 4, 5, 6, 1, 2, 3] rfl rfl rfl rfl rfl rfl rfl) hS 0 0 rfl rfl rfl rfl hl.1 rfl (Nat.le_of_ble_eq_true rfl) dX4_losePower_8 ⟨Nat.zero_le _, Nat.zero_le _⟩ (fun H locs hP hD hS => ?_)
    exact K_11 _ _ ls gM gB8 mk9 mx10 gI gD (p2) hP hD hS (lv_sub hl [0, 2] rfl) hsp
def s_X4_address (gM : zF) (gB : zF) (gL : zF) (p1 : Int32) : Option (zF) := zl (va_up gL 0 (p1)) fun (gL1 : zF) => zl (va_up gL1 1 ((gM 6))) fun (gL2 : zF) => zl (va_up gL2 2 ((gB 2))) fun (gL3 : zF) => zl (va_up gL3 3 ((gM 7))) fun (gL4 : zF) => zl (va_up gL4 4 ((gM 8))) fun (gL5 : zF) => zl (va_up gL5 7 ((gM 11))) fun (gL6 : zF) => zl (va_up gL6 8 ((gM 12))) fun (gL7 : zF) => some (gL7)
abbrev rm_X4_address : Room := { frames := 0, cells := 0, slots := 0, locals := 0 }
set_option maxHeartbeats 4000000 in
set_option maxRecDepth 100000 in
theorem c_X4_address (l : Launch) (dD : va_G) (cI cA : ClassId) (q : Nat → Nat) (aR : Nat) (aD : Nat) (ca : Option Nat) (gM : zF) (gB : zF) (gL : zF) (p1 : Int32) (r_gL : zF) (hsp : s_X4_address gM gB gL p1 = some (r_gL)) : zMv l yX4_address wsX4_address rm_X4_address dD cI cA [.ref (q 0), .int p1] ([zM q aR aD ca gM, zB q gB, zL (q 5) gL]) ([zM q aR aD ca gM, zB q gB, zL (q 5) r_gL]) := by
  refine zMv_of (cc := cX4_address) (maxL := 2) (by decide) rfl (Nat.le_of_ble_eq_true rfl) ?_
  intro p e s m args below meth c A Q ls hx hb hml hown hts hK hA hP hD hl hret
  have hown : s.vm.findClass RX4 = some m.cls := hown
  have iX4 : ∀ w ∈ wsX40, w ∈ wsX4_address := by decide +kernel
  have iX3 : ∀ w ∈ wsX30, w ∈ wsX4_address := by decide +kernel
  have iX0 : ∀ w ∈ wsX00, w ∈ wsX4_address := by decide +kernel
  have f28 := hts (.fieldLink RX4 28 "MeshField$Machine" "letter" "LMeshField$Letter;") (by decide +kernel)
  have f125 : (Cond.fieldLinkNest RX4 125 "MeshField$Letter" "kind" "I" "MeshField").before args s = true := hK.nw (by decide +kernel)
  have f59 := hts (.fieldLink RX4 59 "MeshField$Machine" "number" "I") (by decide +kernel)
  have f128 : (Cond.fieldLinkNest RX4 128 "MeshField$Letter" "number" "I" "MeshField").before args s = true := hK.nw (by decide +kernel)
  have f12 := hts (.fieldLink RX4 12 "MeshField$Machine" "basis" "LMeshField$Basis;") (by decide +kernel)
  have f68 : (Cond.fieldLinkNest RX4 68 "MeshField$Basis" "rank" "I" "MeshField").before args s = true := hK.nw (by decide +kernel)
  have f129 : (Cond.fieldLinkNest RX4 129 "MeshField$Letter" "rank" "I" "MeshField").before args s = true := hK.nw (by decide +kernel)
  have f62 := hts (.fieldLink RX4 62 "MeshField$Machine" "pieces" "I") (by decide +kernel)
  have f130 : (Cond.fieldLinkNest RX4 130 "MeshField$Letter" "pieces" "I" "MeshField").before args s = true := hK.nw (by decide +kernel)
  have f56 := hts (.fieldLink RX4 56 "MeshField$Machine" "keptSum" "I") (by decide +kernel)
  have f131 : (Cond.fieldLinkNest RX4 131 "MeshField$Letter" "programSum" "I" "MeshField").before args s = true := hK.nw (by decide +kernel)
  have f87 := hts (.fieldLink RX4 87 "MeshField$Machine" "turnNumber" "I") (by decide +kernel)
  have f134 : (Cond.fieldLinkNest RX4 134 "MeshField$Letter" "turnNumber" "I" "MeshField").before args s = true := hK.nw (by decide +kernel)
  have f90 := hts (.fieldLink RX4 90 "MeshField$Machine" "turnTick" "I") (by decide +kernel)
  have f135 : (Cond.fieldLinkNest RX4 135 "MeshField$Letter" "turnTick" "I" "MeshField").before args s = true := hK.nw (by decide +kernel)
  have hS : va_S A s.heap s.heap [] := va_S.rf
  have hl : lv_has ls 2 [(0, .ref (q 0)), (1, .int p1)] := hl
  unfold s_X4_address at hsp
  refine lv_aload_n hx hb dX4_address_0 rfl (lv_at hl 0 rfl) ?_
  refine va_get (D := dD) (ci := 4) (v := .ref (q 5)) (C := RX4) (T := TX4) (N := 18) hx hb hts iX4 hown hK.1 hP 0 rfl rfl 4 (by decide) f28 (fun _ h9 => h9) rfl dX4_address_1 ?_
  refine lv_iload_n hx hb dX4_address_4 rfl (lv_at hl 1 rfl) ?_
  refine va_putN (D := dD) (ci := 3) (v := .int p1) (ty := .int) (C := RX3) (T := TX3) (N := 9) hx hb hts iX3 tyX3 tyX3_ok nmX3 hown hK.1 hP hD hS 2 rfl rfl 0 (by decide) f125 (fun _ h9 => h9) rfl (by decide +kernel) rfl rfl (Nat.le_of_ble_eq_true rfl) dX4_address_5 (fun H locs hP hD hS => ?_)
  obtain ⟨gL1, egL1, hsp⟩ := z_lt hsp
  have hP : va_P dD vwCl ([zM q aR aD ca gM, zB q gB, zL (q 5) gL1]) H := by rw [egL1]; exact hP
  have hD : va_D A ([zM q aR aD ca gM, zB q gB, zL (q 5) gL1]) := by rw [egL1]; exact hD
  refine lv_aload_n hx hb dX4_address_8 rfl (lv_at hl 0 rfl) ?_
  refine va_get (D := dD) (ci := 4) (v := .ref (q 5)) (C := RX4) (T := TX4) (N := 18) hx hb hts iX4 hown hK.1 hP 0 rfl rfl 4 (by decide) f28 (fun _ h9 => h9) rfl dX4_address_9 ?_
  refine lv_aload_n hx hb dX4_address_12 rfl (lv_at hl 0 rfl) ?_
  refine va_get (D := dD) (ci := 4) (v := .int (gM 6)) (C := RX4) (T := TX4) (N := 18) hx hb hts iX4 hown hK.1 hP 0 rfl rfl 6 (by decide) f59 (fun _ h9 => h9) rfl dX4_address_13 ?_
  refine va_putN (D := dD) (ci := 3) (v := .int (gM 6)) (ty := .int) (C := RX3) (T := TX3) (N := 9) hx hb hts iX3 tyX3 tyX3_ok nmX3 hown hK.1 hP hD hS 2 rfl rfl 1 (by decide) f128 (fun _ h9 => h9) rfl (by decide +kernel) rfl rfl (Nat.le_of_ble_eq_true rfl) dX4_address_16 (fun H locs hP hD hS => ?_)
  obtain ⟨gL2, egL2, hsp⟩ := z_lt hsp
  have hP : va_P dD vwCl ([zM q aR aD ca gM, zB q gB, zL (q 5) gL2]) H := by rw [egL2]; exact hP
  have hD : va_D A ([zM q aR aD ca gM, zB q gB, zL (q 5) gL2]) := by rw [egL2]; exact hD
  refine lv_aload_n hx hb dX4_address_19 rfl (lv_at hl 0 rfl) ?_
  refine va_get (D := dD) (ci := 4) (v := .ref (q 5)) (C := RX4) (T := TX4) (N := 18) hx hb hts iX4 hown hK.1 hP 0 rfl rfl 4 (by decide) f28 (fun _ h9 => h9) rfl dX4_address_20 ?_
  refine lv_aload_n hx hb dX4_address_23 rfl (lv_at hl 0 rfl) ?_
  refine va_get (D := dD) (ci := 4) (v := .ref (q 1)) (C := RX4) (T := TX4) (N := 18) hx hb hts iX4 hown hK.1 hP 0 rfl rfl 2 (by decide) f12 (fun _ h9 => h9) rfl dX4_address_24 ?_
  refine va_getN (D := dD) (ci := 0) (v := .int (gB 2)) (C := RX0) (T := TX0) (N := 3) hx hb hts iX0 hown hK.1 hP 1 rfl rfl 2 (by decide) f68 (fun _ h9 => h9) rfl dX4_address_27 ?_
  refine va_putN (D := dD) (ci := 3) (v := .int (gB 2)) (ty := .int) (C := RX3) (T := TX3) (N := 9) hx hb hts iX3 tyX3 tyX3_ok nmX3 hown hK.1 hP hD hS 2 rfl rfl 2 (by decide) f129 (fun _ h9 => h9) rfl (by decide +kernel) rfl rfl (Nat.le_of_ble_eq_true rfl) dX4_address_30 (fun H locs hP hD hS => ?_)
  obtain ⟨gL3, egL3, hsp⟩ := z_lt hsp
  have hP : va_P dD vwCl ([zM q aR aD ca gM, zB q gB, zL (q 5) gL3]) H := by rw [egL3]; exact hP
  have hD : va_D A ([zM q aR aD ca gM, zB q gB, zL (q 5) gL3]) := by rw [egL3]; exact hD
  refine lv_aload_n hx hb dX4_address_33 rfl (lv_at hl 0 rfl) ?_
  refine va_get (D := dD) (ci := 4) (v := .ref (q 5)) (C := RX4) (T := TX4) (N := 18) hx hb hts iX4 hown hK.1 hP 0 rfl rfl 4 (by decide) f28 (fun _ h9 => h9) rfl dX4_address_34 ?_
  refine lv_aload_n hx hb dX4_address_37 rfl (lv_at hl 0 rfl) ?_
  refine va_get (D := dD) (ci := 4) (v := .int (gM 7)) (C := RX4) (T := TX4) (N := 18) hx hb hts iX4 hown hK.1 hP 0 rfl rfl 7 (by decide) f62 (fun _ h9 => h9) rfl dX4_address_38 ?_
  refine va_putN (D := dD) (ci := 3) (v := .int (gM 7)) (ty := .int) (C := RX3) (T := TX3) (N := 9) hx hb hts iX3 tyX3 tyX3_ok nmX3 hown hK.1 hP hD hS 2 rfl rfl 3 (by decide) f130 (fun _ h9 => h9) rfl (by decide +kernel) rfl rfl (Nat.le_of_ble_eq_true rfl) dX4_address_41 (fun H locs hP hD hS => ?_)
  obtain ⟨gL4, egL4, hsp⟩ := z_lt hsp
  have hP : va_P dD vwCl ([zM q aR aD ca gM, zB q gB, zL (q 5) gL4]) H := by rw [egL4]; exact hP
  have hD : va_D A ([zM q aR aD ca gM, zB q gB, zL (q 5) gL4]) := by rw [egL4]; exact hD
  refine lv_aload_n hx hb dX4_address_44 rfl (lv_at hl 0 rfl) ?_
  refine va_get (D := dD) (ci := 4) (v := .ref (q 5)) (C := RX4) (T := TX4) (N := 18) hx hb hts iX4 hown hK.1 hP 0 rfl rfl 4 (by decide) f28 (fun _ h9 => h9) rfl dX4_address_45 ?_
  refine lv_aload_n hx hb dX4_address_48 rfl (lv_at hl 0 rfl) ?_
  refine va_get (D := dD) (ci := 4) (v := .int (gM 8)) (C := RX4) (T := TX4) (N := 18) hx hb hts iX4 hown hK.1 hP 0 rfl rfl 8 (by decide) f56 (fun _ h9 => h9) rfl dX4_address_49 ?_
  refine va_putN (D := dD) (ci := 3) (v := .int (gM 8)) (ty := .int) (C := RX3) (T := TX3) (N := 9) hx hb hts iX3 tyX3 tyX3_ok nmX3 hown hK.1 hP hD hS 2 rfl rfl 4 (by decide) f131 (fun _ h9 => h9) rfl (by decide +kernel) rfl rfl (Nat.le_of_ble_eq_true rfl) dX4_address_52 (fun H locs hP hD hS => ?_)
  obtain ⟨gL5, egL5, hsp⟩ := z_lt hsp
  have hP : va_P dD vwCl ([zM q aR aD ca gM, zB q gB, zL (q 5) gL5]) H := by rw [egL5]; exact hP
  have hD : va_D A ([zM q aR aD ca gM, zB q gB, zL (q 5) gL5]) := by rw [egL5]; exact hD
  refine lv_aload_n hx hb dX4_address_55 rfl (lv_at hl 0 rfl) ?_
  refine va_get (D := dD) (ci := 4) (v := .ref (q 5)) (C := RX4) (T := TX4) (N := 18) hx hb hts iX4 hown hK.1 hP 0 rfl rfl 4 (by decide) f28 (fun _ h9 => h9) rfl dX4_address_56 ?_
  refine lv_aload_n hx hb dX4_address_59 rfl (lv_at hl 0 rfl) ?_
  refine va_get (D := dD) (ci := 4) (v := .int (gM 11)) (C := RX4) (T := TX4) (N := 18) hx hb hts iX4 hown hK.1 hP 0 rfl rfl 11 (by decide) f87 (fun _ h9 => h9) rfl dX4_address_60 ?_
  refine va_putN (D := dD) (ci := 3) (v := .int (gM 11)) (ty := .int) (C := RX3) (T := TX3) (N := 9) hx hb hts iX3 tyX3 tyX3_ok nmX3 hown hK.1 hP hD hS 2 rfl rfl 7 (by decide) f134 (fun _ h9 => h9) rfl (by decide +kernel) rfl rfl (Nat.le_of_ble_eq_true rfl) dX4_address_63 (fun H locs hP hD hS => ?_)
  obtain ⟨gL6, egL6, hsp⟩ := z_lt hsp
  have hP : va_P dD vwCl ([zM q aR aD ca gM, zB q gB, zL (q 5) gL6]) H := by rw [egL6]; exact hP
  have hD : va_D A ([zM q aR aD ca gM, zB q gB, zL (q 5) gL6]) := by rw [egL6]; exact hD
  refine lv_aload_n hx hb dX4_address_66 rfl (lv_at hl 0 rfl) ?_
  refine va_get (D := dD) (ci := 4) (v := .ref (q 5)) (C := RX4) (T := TX4) (N := 18) hx hb hts iX4 hown hK.1 hP 0 rfl rfl 4 (by decide) f28 (fun _ h9 => h9) rfl dX4_address_67 ?_
  refine lv_aload_n hx hb dX4_address_70 rfl (lv_at hl 0 rfl) ?_
  refine va_get (D := dD) (ci := 4) (v := .int (gM 12)) (C := RX4) (T := TX4) (N := 18) hx hb hts iX4 hown hK.1 hP 0 rfl rfl 12 (by decide) f90 (fun _ h9 => h9) rfl dX4_address_71 ?_
  refine va_putN (D := dD) (ci := 3) (v := .int (gM 12)) (ty := .int) (C := RX3) (T := TX3) (N := 9) hx hb hts iX3 tyX3 tyX3_ok nmX3 hown hK.1 hP hD hS 2 rfl rfl 8 (by decide) f135 (fun _ h9 => h9) rfl (by decide +kernel) rfl rfl (Nat.le_of_ble_eq_true rfl) dX4_address_74 (fun H locs hP hD hS => ?_)
  obtain ⟨gL7, egL7, hsp⟩ := z_lt hsp
  have hP : va_P dD vwCl ([zM q aR aD ca gM, zB q gB, zL (q 5) gL7]) H := by rw [egL7]; exact hP
  have hD : va_D A ([zM q aR aD ca gM, zB q gB, zL (q 5) gL7]) := by rw [egL7]; exact hD
  obtain rfl := Option.some.inj hsp
  exact hret _ _ ls 77 dX4_address_77 hP hD hS
def s_X4_send_b122 (gB : zF) (mk : zF) (mx : zF) (gI : zF) (gR : zF) (gM_ : zF) (gL_ : zF) (gD_ : zF) : Option ((zF) × (zF) × (zF)) := zl (va_up gL_ 0 (0)) fun (gL5 : zF) => some (gM_, gL5, gD_)
def s_X4_send_b76 (gB : zF) (mk : zF) (mx : zF) (gI : zF) (gR : zF) (gM_ : zF) (gL_ : zF) (gD_ : zF) (x1 : Int32) : Option ((zF) × (zF) × (zF)) := (if (gI 2) = x1 then (if (gR 0) ≤ (gI 3) then (s_X4_send_b122 gB mk mx gI gR gM_ gL_ gD_) else zb1 (s_X4_address gM_ gB gL_ (1)) fun (gL7 : zF) => zl (va_up gM_ 13 (((gM_ 13) + 1))) fun (gM9 : zF) => some (gM9, gL7, gD_)) else (s_X4_send_b122 gB mk mx gI gR gM_ gL_ gD_))
def s_X4_send_b23 (gB : zF) (mk : zF) (mx : zF) (gI : zF) (gR : zF) (gM_ : zF) (gL_ : zF) (gD_ : zF) (x1 : Int32) (x2 : Int32) : Option ((zF) × (zF) × (zF)) := (if x2 = 0 then (s_X4_send_b76 gB mk mx gI gR gM_ gL_ gD_ (x1)) else (if (gB 2) ≤ 0 then (s_X4_send_b76 gB mk mx gI gR gM_ gL_ gD_ (x1)) else zb2 (s_X1_below gD_ (4096)) fun (v11 : Int32) (gD12 : zF) => zb1 (s_X0_mixInto gB mk mx gL_ (v11)) fun (gL14 : zF) => zb1 (s_X4_address gM_ gB gL14 (2)) fun (gL16 : zF) => zl (va_up gM_ 14 (((gM_ 14) + 1))) fun (gM18 : zF) => some (gM18, gL16, gD12)))
def s_X4_send_b13 (gB : zF) (mk : zF) (mx : zF) (gI : zF) (gR : zF) (gM_ : zF) (gL_ : zF) (gD_ : zF) (x1 : Int32) (t0 : Int32) : Option ((zF) × (zF) × (zF)) := (if t0 = 0 then (s_X4_send_b23 gB mk mx gI gR gM_ gL_ gD_ (x1) (t0)) else zl (va_up gM_ 10 ((-1))) fun (gM19 : zF) => (s_X4_send_b23 gB mk mx gI gR gM19 gL_ gD_ (x1) (t0)))
def s_X4_send (gM : zF) (gB : zF) (mk : zF) (mx : zF) (gI : zF) (gL : zF) (gR : zF) (gD : zF) (p1 : Int32) : Option ((zF) × (zF) × (zF)) := (if (gM 10) = p1 then (s_X4_send_b13 gB mk mx gI gR gM gL gD (p1) (1)) else (s_X4_send_b13 gB mk mx gI gR gM gL gD (p1) (0)))
abbrev rm_X4_send : Room := { frames := 3, cells := 0, slots := 0, locals := 69 }
set_option maxHeartbeats 4000000 in
set_option maxRecDepth 100000 in
theorem c_X4_send (l : Launch) (dD : va_G) (cI cA : ClassId) (q : Nat → Nat) (aR : Nat) (aD : Nat) (ca : Option Nat) (gM : zF) (gB : zF) (mk : zF) (mx : zF) (gI : zF) (gL : zF) (gR : zF) (gD : zF) (p1 : Int32) (r_gM : zF) (r_gL : zF) (r_gD : zF) (hsp : s_X4_send gM gB mk mx gI gL gR gD p1 = some (r_gM, r_gL, r_gD)) : zMv l yX4_send wsX4_send rm_X4_send dD cI cA [.ref (q 0), .int p1] ([zM q aR aD ca gM, zB q gB, zA cI (q 2) 12 mk, zA cI (q 3) 12 mx, zI q gI, zL (q 5) gL, zR aR gR, zD aD gD]) ([zM q aR aD ca r_gM, zB q gB, zA cI (q 2) 12 mk, zA cI (q 3) 12 mx, zI q gI, zL (q 5) r_gL, zR aR gR, zD aD r_gD]) := by
  refine zMv_of (cc := cX4_send) (maxL := 3) (by decide) rfl (Nat.le_of_ble_eq_true rfl) ?_
  intro p e s m args below meth c A Q ls hx hb hml hown hts hK hA hP hD hl hret
  have hown : s.vm.findClass RX4 = some m.cls := hown
  have iX4 : ∀ w ∈ wsX40, w ∈ wsX4_send := by decide +kernel
  have iX2 : ∀ w ∈ wsX20, w ∈ wsX4_send := by decide +kernel
  have iX3 : ∀ w ∈ wsX30, w ∈ wsX4_send := by decide +kernel
  have iX5 : ∀ w ∈ wsX50, w ∈ wsX4_send := by decide +kernel
  have iX0 : ∀ w ∈ wsX00, w ∈ wsX4_send := by decide +kernel
  have f32 := hts (.fieldLink RX4 32 "MeshField$Machine" "dataAt" "I") (by decide +kernel)
  have f21 := hts (.fieldLink RX4 21 "MeshField$Machine" "interval" "LMeshField$Interval;") (by decide +kernel)
  have f113 : (Cond.fieldLinkNest RX4 113 "MeshField$Interval" "tellsAt" "I" "MeshField").before args s = true := hK.nw (by decide +kernel)
  have f28 := hts (.fieldLink RX4 28 "MeshField$Machine" "letter" "LMeshField$Letter;") (by decide +kernel)
  have f125 : (Cond.fieldLinkNest RX4 125 "MeshField$Letter" "kind" "I" "MeshField").before args s = true := hK.nw (by decide +kernel)
  have f116 : (Cond.fieldLinkNest RX4 116 "MeshField$Interval" "heard" "I" "MeshField").before args s = true := hK.nw (by decide +kernel)
  have f36 := hts (.fieldLink RX4 36 "MeshField$Machine" "rules" "LMeshField$Rules;") (by decide +kernel)
  have f119 : (Cond.fieldLinkNest RX4 119 "MeshField$Rules" "few" "I" "MeshField").before args s = true := hK.nw (by decide +kernel)
  have f122 := hts (.fieldLink RX4 122 "MeshField$Machine" "tellsSent" "I") (by decide +kernel)
  have f12 := hts (.fieldLink RX4 12 "MeshField$Machine" "basis" "LMeshField$Basis;") (by decide +kernel)
  have f68 : (Cond.fieldLinkNest RX4 68 "MeshField$Basis" "rank" "I" "MeshField").before args s = true := hK.nw (by decide +kernel)
  have f40 := hts (.fieldLink RX4 40 "MeshField$Machine" "draws" "LMeshField$Draws;") (by decide +kernel)
  have f110 := hts (.fieldLink RX4 110 "MeshField$Machine" "mixesSent" "I") (by decide +kernel)
  have hS : va_S A s.heap s.heap [] := va_S.rf
  have hl : lv_has ls 3 [(0, .ref (q 0)), (1, .int p1)] := hl
  have K_122 : ∀ (H : Heap) (locs : List Loc) (ls : Array Slot) (gM_ : zF) (gL_ : zF) (gD_ : zF), va_P dD vwCl ([zM q aR aD ca gM_, zB q gB, zA cI (q 2) 12 mk, zA cI (q 3) 12 mx, zI q gI, zL (q 5) gL_, zR aR gR, zD aD gD_]) H → va_D A ([zM q aR aD ca gM_, zB q gB, zA cI (q 2) 12 mk, zA cI (q 3) 12 mx, zI q gI, zL (q 5) gL_, zR aR gR, zD aD gD_]) → va_S A s.heap H locs → lv_has ls 3 [(0, .ref (q 0))] → s_X4_send_b122 gB mk mx gI gR gM_ gL_ gD_ = some (r_gM, r_gL, r_gD) → W p l e rm_X4_send s m args below meth c H locs 0 0 Q (F0 m 122 ls []) := by
    intro H locs ls gM_ gL_ gD_ hP hD hS hl hsp
    unfold s_X4_send_b122 at hsp
    refine lv_aload_n hx hb dX4_send_122 rfl (lv_at hl 0 rfl) ?_
    refine va_get (D := dD) (ci := 4) (v := .ref (q 5)) (C := RX4) (T := TX4) (N := 18) hx hb hts iX4 hown hK.1 hP 0 rfl rfl 4 (by decide) f28 (fun _ h9 => h9) rfl dX4_send_123 ?_
    refine lv_iconst (v := 0) hx hb dX4_send_126 (by decide) ?_
    refine va_putN (D := dD) (ci := 3) (v := .int 0) (ty := .int) (C := RX3) (T := TX3) (N := 9) hx hb hts iX3 tyX3 tyX3_ok nmX3 hown hK.1 hP hD hS 5 rfl rfl 0 (by decide) f125 (fun _ h9 => h9) rfl (by decide +kernel) rfl rfl (Nat.le_of_ble_eq_true rfl) dX4_send_127 (fun H locs hP hD hS => ?_)
    obtain ⟨gL5, egL5, hsp⟩ := z_lt hsp
    have hP : va_P dD vwCl ([zM q aR aD ca gM_, zB q gB, zA cI (q 2) 12 mk, zA cI (q 3) 12 mx, zI q gI, zL (q 5) gL5, zR aR gR, zD aD gD_]) H := by rw [egL5]; exact hP
    have hD : va_D A ([zM q aR aD ca gM_, zB q gB, zA cI (q 2) 12 mk, zA cI (q 3) 12 mx, zI q gI, zL (q 5) gL5, zR aR gR, zD aD gD_]) := by rw [egL5]; exact hD
    obtain ⟨rfl, rfl, rfl⟩ := z_i3 hsp
    exact hret _ _ ls 130 dX4_send_130 hP hD hS
  have K_76 : ∀ (H : Heap) (locs : List Loc) (ls : Array Slot) (gM_ : zF) (gL_ : zF) (gD_ : zF) (x1 : Int32), va_P dD vwCl ([zM q aR aD ca gM_, zB q gB, zA cI (q 2) 12 mk, zA cI (q 3) 12 mx, zI q gI, zL (q 5) gL_, zR aR gR, zD aD gD_]) H → va_D A ([zM q aR aD ca gM_, zB q gB, zA cI (q 2) 12 mk, zA cI (q 3) 12 mx, zI q gI, zL (q 5) gL_, zR aR gR, zD aD gD_]) → va_S A s.heap H locs → lv_has ls 3 [(0, .ref (q 0)), (1, .int x1)] → s_X4_send_b76 gB mk mx gI gR gM_ gL_ gD_ x1 = some (r_gM, r_gL, r_gD) → W p l e rm_X4_send s m args below meth c H locs 0 0 Q (F0 m 76 ls []) := by
    intro H locs ls gM_ gL_ gD_ x1 hP hD hS hl hsp
    unfold s_X4_send_b76 at hsp
    refine lv_aload_n hx hb dX4_send_76 rfl (lv_at hl 0 rfl) ?_
    refine va_get (D := dD) (ci := 4) (v := .ref (q 4)) (C := RX4) (T := TX4) (N := 18) hx hb hts iX4 hown hK.1 hP 0 rfl rfl 3 (by decide) f21 (fun _ h9 => h9) rfl dX4_send_77 ?_
    refine va_getN (D := dD) (ci := 2) (v := .int (gI 2)) (C := RX2) (T := TX2) (N := 4) hx hb hts iX2 hown hK.1 hP 4 rfl rfl 2 (by decide) f113 (fun _ h9 => h9) rfl dX4_send_80 ?_
    refine lv_iload_n hx hb dX4_send_83 rfl (lv_at hl 1 rfl) ?_
    refine lv_icmp_ne (tgt := 122) hx hb dX4_send_84 (by decide) (fun c4 => ?_) (fun c4 => ?_)
    · have hsp := z_f c4 hsp
      exact K_122 _ _ ls gM_ gL_ gD_ hP hD hS (lv_sub hl [0] rfl) hsp
    · have hsp := z_t c4 hsp
      refine lv_aload_n hx hb dX4_send_87 rfl (lv_at hl 0 rfl) ?_
      refine va_get (D := dD) (ci := 4) (v := .ref (q 4)) (C := RX4) (T := TX4) (N := 18) hx hb hts iX4 hown hK.1 hP 0 rfl rfl 3 (by decide) f21 (fun _ h9 => h9) rfl dX4_send_88 ?_
      refine va_getN (D := dD) (ci := 2) (v := .int (gI 3)) (C := RX2) (T := TX2) (N := 4) hx hb hts iX2 hown hK.1 hP 4 rfl rfl 3 (by decide) f116 (fun _ h9 => h9) rfl dX4_send_91 ?_
      refine lv_aload_n hx hb dX4_send_94 rfl (lv_at hl 0 rfl) ?_
      refine va_get (D := dD) (ci := 4) (v := .ref aR) (C := RX4) (T := TX4) (N := 18) hx hb hts iX4 hown hK.1 hP 0 rfl rfl 0 (by decide) f36 (fun _ h9 => h9) rfl dX4_send_95 ?_
      refine va_getN (D := dD) (ci := 5) (v := .int (gR 0)) (C := RX5) (T := TX5) (N := 4) hx hb hts iX5 hown hK.1 hP 6 rfl rfl 0 (by decide) f119 (fun _ h9 => h9) rfl dX4_send_98 ?_
      refine lv_icmp_ge (tgt := 122) hx hb dX4_send_101 (by decide) (fun c6 => ?_) (fun c6 => ?_)
      · have hsp := z_t c6 hsp
        exact K_122 _ _ ls gM_ gL_ gD_ hP hD hS (lv_sub hl [0] rfl) hsp
      · have hsp := z_f c6 hsp
        refine lv_aload_n hx hb dX4_send_104 rfl (lv_at hl 0 rfl) ?_
        refine lv_iconst (v := 1) hx hb dX4_send_105 (by decide) ?_
        obtain ⟨gL7, hc8, hsp⟩ := z_b1 hsp
        refine z_callVv ⟨hx, hb, hml, hown, hts⟩ hK (c_X4_address l dD cI cA q aR aD ca gM_ gB gL_ (1) gL7 hc8) (cwV 1 hts gX4_send_X4_address rfl rfl rfl (by decide +kernel) ⟨Nat.le_of_ble_eq_true rfl, Nat.le_of_ble_eq_true rfl⟩) (zJ.of (wc := [zM q aR aD ca gM_, zB q gB, zL (q 5) gL_]) (wc1 := [zM q aR aD ca gM_, zB q gB, zL (q 5) gL7]) (wr := [zA cI (q 2) 12 mk, zA cI (q 3) 12 mx, zI q gI, zR aR gR, zD aD gD_]) (w2 := [zM q aR aD ca gM_, zB q gB, zA cI (q 2) 12 mk, zA cI (q 3) 12 mx, zI q gI, zL (q 5) gL7, zR aR gR, zD aD gD_]) hP hD hS hA [0, 1, 5] [2, 3, 4, 6, 7] [5, 6, 0, 1, 2, 7, 3, 4] rfl rfl rfl rfl rfl rfl rfl) hS 0 4 rfl rfl rfl rfl hl.1 rfl (Nat.le_of_ble_eq_true rfl) dX4_send_106 ⟨Nat.zero_le _, Nat.zero_le _⟩ (fun H locs hP hD hS => ?_)
        refine lv_aload_n hx hb dX4_send_109 rfl (lv_at hl 0 rfl) ?_
        refine lv_dup hx hb dX4_send_110 rfl ?_
        refine va_get (D := dD) (ci := 4) (v := .int (gM_ 13)) (C := RX4) (T := TX4) (N := 18) hx hb hts iX4 hown hK.1 hP 0 rfl rfl 13 (by decide) f122 (fun _ h9 => h9) rfl dX4_send_111 ?_
        refine lv_iconst (v := 1) hx hb dX4_send_114 (by decide) ?_
        refine lv_iadd hx hb dX4_send_115 ?_
        refine va_put (D := dD) (ci := 4) (v := .int ((gM_ 13) + 1)) (ty := .int) (C := RX4) (T := TX4) (N := 18) hx hb hts iX4 tyX4 tyX4_ok nmX4 hown hK.1 hP hD hS 0 rfl rfl 13 (by decide) f122 (fun _ h9 => h9) rfl (by decide +kernel) rfl rfl (Nat.le_of_ble_eq_true rfl) dX4_send_116 (fun H locs hP hD hS => ?_)
        obtain ⟨gM9, egM9, hsp⟩ := z_lt hsp
        have hP : va_P dD vwCl ([zM q aR aD ca gM9, zB q gB, zA cI (q 2) 12 mk, zA cI (q 3) 12 mx, zI q gI, zL (q 5) gL7, zR aR gR, zD aD gD_]) H := by rw [egM9]; exact hP
        have hD : va_D A ([zM q aR aD ca gM9, zB q gB, zA cI (q 2) 12 mk, zA cI (q 3) 12 mx, zI q gI, zL (q 5) gL7, zR aR gR, zD aD gD_]) := by rw [egM9]; exact hD
        refine lv_goto (tgt := 130) hx hb dX4_send_119 (by decide) ?_
        obtain ⟨rfl, rfl, rfl⟩ := z_i3 hsp
        exact hret _ _ ls 130 dX4_send_130 hP hD hS
  have K_23 : ∀ (H : Heap) (locs : List Loc) (ls : Array Slot) (gM_ : zF) (gL_ : zF) (gD_ : zF) (x1 : Int32) (x2 : Int32), va_P dD vwCl ([zM q aR aD ca gM_, zB q gB, zA cI (q 2) 12 mk, zA cI (q 3) 12 mx, zI q gI, zL (q 5) gL_, zR aR gR, zD aD gD_]) H → va_D A ([zM q aR aD ca gM_, zB q gB, zA cI (q 2) 12 mk, zA cI (q 3) 12 mx, zI q gI, zL (q 5) gL_, zR aR gR, zD aD gD_]) → va_S A s.heap H locs → lv_has ls 3 [(0, .ref (q 0)), (1, .int x1), (2, .int x2)] → s_X4_send_b23 gB mk mx gI gR gM_ gL_ gD_ x1 x2 = some (r_gM, r_gL, r_gD) → W p l e rm_X4_send s m args below meth c H locs 0 0 Q (F0 m 23 ls []) := by
    intro H locs ls gM_ gL_ gD_ x1 x2 hP hD hS hl hsp
    unfold s_X4_send_b23 at hsp
    refine lv_iload_n hx hb dX4_send_23 rfl (lv_at hl 2 rfl) ?_
    refine lv_if_eq (tgt := 76) hx hb dX4_send_24 (by decide) (fun c3 => ?_) (fun c3 => ?_)
    · have hsp := z_t c3 hsp
      exact K_76 _ _ ls gM_ gL_ gD_ (x1) hP hD hS (lv_sub hl [0, 1] rfl) hsp
    · have hsp := z_f c3 hsp
      refine lv_aload_n hx hb dX4_send_27 rfl (lv_at hl 0 rfl) ?_
      refine va_get (D := dD) (ci := 4) (v := .ref (q 1)) (C := RX4) (T := TX4) (N := 18) hx hb hts iX4 hown hK.1 hP 0 rfl rfl 2 (by decide) f12 (fun _ h9 => h9) rfl dX4_send_28 ?_
      refine va_getN (D := dD) (ci := 0) (v := .int (gB 2)) (C := RX0) (T := TX0) (N := 3) hx hb hts iX0 hown hK.1 hP 1 rfl rfl 2 (by decide) f68 (fun _ h9 => h9) rfl dX4_send_31 ?_
      refine lv_if_le (tgt := 76) hx hb dX4_send_34 (by decide) (fun c10 => ?_) (fun c10 => ?_)
      · have hsp := z_t c10 hsp
        exact K_76 _ _ ls gM_ gL_ gD_ (x1) hP hD hS (lv_sub hl [0, 1] rfl) hsp
      · have hsp := z_f c10 hsp
        refine lv_aload_n hx hb dX4_send_37 rfl (lv_at hl 0 rfl) ?_
        refine va_get (D := dD) (ci := 4) (v := .ref (q 1)) (C := RX4) (T := TX4) (N := 18) hx hb hts iX4 hown hK.1 hP 0 rfl rfl 2 (by decide) f12 (fun _ h9 => h9) rfl dX4_send_38 ?_
        refine lv_aload_n hx hb dX4_send_41 rfl (lv_at hl 0 rfl) ?_
        refine va_get (D := dD) (ci := 4) (v := .ref (q 5)) (C := RX4) (T := TX4) (N := 18) hx hb hts iX4 hown hK.1 hP 0 rfl rfl 4 (by decide) f28 (fun _ h9 => h9) rfl dX4_send_42 ?_
        refine lv_aload_n hx hb dX4_send_45 rfl (lv_at hl 0 rfl) ?_
        refine va_get (D := dD) (ci := 4) (v := .ref aD) (C := RX4) (T := TX4) (N := 18) hx hb hts iX4 hown hK.1 hP 0 rfl rfl 1 (by decide) f40 (fun _ h9 => h9) rfl dX4_send_46 ?_
        refine lv_sipush (v := 4096) hx hb dX4_send_49 (by decide) ?_
        obtain ⟨v11, gD12, hc13, hsp⟩ := z_b2 hsp
        refine z_callVi ⟨hx, hb, hml, hown, hts⟩ hK (c_X1_below l dD cI cA aD gD_ (4096) v11 gD12 hc13) (cwV 1 hts gX4_send_X1_below rfl rfl rfl (by decide +kernel) ⟨Nat.le_of_ble_eq_true rfl, Nat.le_of_ble_eq_true rfl⟩) (zJ.of (wc := [zD aD gD_]) (wc1 := [zD aD gD12]) (wr := [zM q aR aD ca gM_, zB q gB, zA cI (q 2) 12 mk, zA cI (q 3) 12 mx, zI q gI, zL (q 5) gL_, zR aR gR]) (w2 := [zM q aR aD ca gM_, zB q gB, zA cI (q 2) 12 mk, zA cI (q 3) 12 mx, zI q gI, zL (q 5) gL_, zR aR gR, zD aD gD12]) hP hD hS hA [7] [0, 1, 2, 3, 4, 5, 6] [0, 1, 2, 3, 4, 5, 6, 7] rfl rfl rfl rfl rfl rfl rfl) hS 0 1 rfl rfl rfl rfl hl.1 rfl (Nat.le_of_ble_eq_true rfl) dX4_send_52 ⟨Nat.zero_le _, Nat.zero_le _⟩ (fun H locs hP hD hS => ?_)
        obtain ⟨gL14, hc15, hsp⟩ := z_b1 hsp
        refine z_callVv ⟨hx, hb, hml, hown, hts⟩ hK (c_X0_mixInto l dD cI cA q (q 5) gB mk mx gL_ (v11) gL14 hc15) (cwV 2 hts gX4_send_X0_mixInto rfl rfl rfl (by decide +kernel) ⟨Nat.le_of_ble_eq_true rfl, Nat.le_of_ble_eq_true rfl⟩) (zJ.of (wc := [zB q gB, zA cI (q 2) 12 mk, zA cI (q 3) 12 mx, zL (q 5) gL_]) (wc1 := [zB q gB, zA cI (q 2) 12 mk, zA cI (q 3) 12 mx, zL (q 5) gL14]) (wr := [zM q aR aD ca gM_, zI q gI, zR aR gR, zD aD gD12]) (w2 := [zM q aR aD ca gM_, zB q gB, zA cI (q 2) 12 mk, zA cI (q 3) 12 mx, zI q gI, zL (q 5) gL14, zR aR gR, zD aD gD12]) hP hD hS hA [1, 2, 3, 5] [0, 4, 6, 7] [0, 4, 5, 6, 1, 7, 2, 3] rfl rfl rfl rfl rfl rfl rfl) hS 0 0 rfl rfl rfl rfl hl.1 rfl (Nat.le_of_ble_eq_true rfl) dX4_send_55 ⟨Nat.zero_le _, Nat.zero_le _⟩ (fun H locs hP hD hS => ?_)
        refine lv_aload_n hx hb dX4_send_58 rfl (lv_at hl 0 rfl) ?_
        refine lv_iconst (v := 2) hx hb dX4_send_59 (by decide) ?_
        obtain ⟨gL16, hc17, hsp⟩ := z_b1 hsp
        refine z_callVv ⟨hx, hb, hml, hown, hts⟩ hK (c_X4_address l dD cI cA q aR aD ca gM_ gB gL14 (2) gL16 hc17) (cwV 1 hts gX4_send_X4_address rfl rfl rfl (by decide +kernel) ⟨Nat.le_of_ble_eq_true rfl, Nat.le_of_ble_eq_true rfl⟩) (zJ.of (wc := [zM q aR aD ca gM_, zB q gB, zL (q 5) gL14]) (wc1 := [zM q aR aD ca gM_, zB q gB, zL (q 5) gL16]) (wr := [zA cI (q 2) 12 mk, zA cI (q 3) 12 mx, zI q gI, zR aR gR, zD aD gD12]) (w2 := [zM q aR aD ca gM_, zB q gB, zA cI (q 2) 12 mk, zA cI (q 3) 12 mx, zI q gI, zL (q 5) gL16, zR aR gR, zD aD gD12]) hP hD hS hA [0, 1, 5] [2, 3, 4, 6, 7] [5, 6, 0, 1, 2, 7, 3, 4] rfl rfl rfl rfl rfl rfl rfl) hS 0 4 rfl rfl rfl rfl hl.1 rfl (Nat.le_of_ble_eq_true rfl) dX4_send_60 ⟨Nat.zero_le _, Nat.zero_le _⟩ (fun H locs hP hD hS => ?_)
        refine lv_aload_n hx hb dX4_send_63 rfl (lv_at hl 0 rfl) ?_
        refine lv_dup hx hb dX4_send_64 rfl ?_
        refine va_get (D := dD) (ci := 4) (v := .int (gM_ 14)) (C := RX4) (T := TX4) (N := 18) hx hb hts iX4 hown hK.1 hP 0 rfl rfl 14 (by decide) f110 (fun _ h9 => h9) rfl dX4_send_65 ?_
        refine lv_iconst (v := 1) hx hb dX4_send_68 (by decide) ?_
        refine lv_iadd hx hb dX4_send_69 ?_
        refine va_put (D := dD) (ci := 4) (v := .int ((gM_ 14) + 1)) (ty := .int) (C := RX4) (T := TX4) (N := 18) hx hb hts iX4 tyX4 tyX4_ok nmX4 hown hK.1 hP hD hS 0 rfl rfl 14 (by decide) f110 (fun _ h9 => h9) rfl (by decide +kernel) rfl rfl (Nat.le_of_ble_eq_true rfl) dX4_send_70 (fun H locs hP hD hS => ?_)
        obtain ⟨gM18, egM18, hsp⟩ := z_lt hsp
        have hP : va_P dD vwCl ([zM q aR aD ca gM18, zB q gB, zA cI (q 2) 12 mk, zA cI (q 3) 12 mx, zI q gI, zL (q 5) gL16, zR aR gR, zD aD gD12]) H := by rw [egM18]; exact hP
        have hD : va_D A ([zM q aR aD ca gM18, zB q gB, zA cI (q 2) 12 mk, zA cI (q 3) 12 mx, zI q gI, zL (q 5) gL16, zR aR gR, zD aD gD12]) := by rw [egM18]; exact hD
        refine lv_goto (tgt := 130) hx hb dX4_send_73 (by decide) ?_
        obtain ⟨rfl, rfl, rfl⟩ := z_i3 hsp
        exact hret _ _ ls 130 dX4_send_130 hP hD hS
  have K_13 : ∀ (H : Heap) (locs : List Loc) (ls : Array Slot) (gM_ : zF) (gL_ : zF) (gD_ : zF) (x1 : Int32) (t0 : Int32), va_P dD vwCl ([zM q aR aD ca gM_, zB q gB, zA cI (q 2) 12 mk, zA cI (q 3) 12 mx, zI q gI, zL (q 5) gL_, zR aR gR, zD aD gD_]) H → va_D A ([zM q aR aD ca gM_, zB q gB, zA cI (q 2) 12 mk, zA cI (q 3) 12 mx, zI q gI, zL (q 5) gL_, zR aR gR, zD aD gD_]) → va_S A s.heap H locs → lv_has ls 3 [(0, .ref (q 0)), (1, .int x1)] → s_X4_send_b13 gB mk mx gI gR gM_ gL_ gD_ x1 t0 = some (r_gM, r_gL, r_gD) → W p l e rm_X4_send s m args below meth c H locs 0 0 Q (F0 m 13 ls [.int t0]) := by
    intro H locs ls gM_ gL_ gD_ x1 t0 hP hD hS hl hsp
    unfold s_X4_send_b13 at hsp
    refine lv_istore_n (lv' := [(2, .int t0), (0, .ref (q 0)), (1, .int x1)]) hx hb dX4_send_13 rfl hl (by decide) rfl (fun ls hl => ?_)
    refine lv_iload_n hx hb dX4_send_14 rfl (lv_at hl 0 rfl) ?_
    refine lv_if_eq (tgt := 23) hx hb dX4_send_15 (by decide) (fun c2 => ?_) (fun c2 => ?_)
    · have hsp := z_t c2 hsp
      exact K_23 _ _ ls gM_ gL_ gD_ (x1) (t0) hP hD hS (lv_sub hl [1, 2, 0] rfl) hsp
    · have hsp := z_f c2 hsp
      refine lv_aload_n hx hb dX4_send_18 rfl (lv_at hl 1 rfl) ?_
      refine lv_iconst (v := (-1)) hx hb dX4_send_19 (by decide) ?_
      refine va_put (D := dD) (ci := 4) (v := .int (-1)) (ty := .int) (C := RX4) (T := TX4) (N := 18) hx hb hts iX4 tyX4 tyX4_ok nmX4 hown hK.1 hP hD hS 0 rfl rfl 10 (by decide) f32 (fun _ h9 => h9) rfl (by decide +kernel) rfl rfl (Nat.le_of_ble_eq_true rfl) dX4_send_20 (fun H locs hP hD hS => ?_)
      obtain ⟨gM19, egM19, hsp⟩ := z_lt hsp
      have hP : va_P dD vwCl ([zM q aR aD ca gM19, zB q gB, zA cI (q 2) 12 mk, zA cI (q 3) 12 mx, zI q gI, zL (q 5) gL_, zR aR gR, zD aD gD_]) H := by rw [egM19]; exact hP
      have hD : va_D A ([zM q aR aD ca gM19, zB q gB, zA cI (q 2) 12 mk, zA cI (q 3) 12 mx, zI q gI, zL (q 5) gL_, zR aR gR, zD aD gD_]) := by rw [egM19]; exact hD
      exact K_23 _ _ ls gM19 gL_ gD_ (x1) (t0) hP hD hS (lv_sub hl [1, 2, 0] rfl) hsp
  unfold s_X4_send at hsp
  refine lv_aload_n hx hb dX4_send_0 rfl (lv_at hl 0 rfl) ?_
  refine va_get (D := dD) (ci := 4) (v := .int (gM 10)) (C := RX4) (T := TX4) (N := 18) hx hb hts iX4 hown hK.1 hP 0 rfl rfl 10 (by decide) f32 (fun _ h9 => h9) rfl dX4_send_1 ?_
  refine lv_iload_n hx hb dX4_send_4 rfl (lv_at hl 1 rfl) ?_
  refine lv_icmp_ne (tgt := 12) hx hb dX4_send_5 (by decide) (fun c1 => ?_) (fun c1 => ?_)
  · have hsp := z_f c1 hsp
    refine lv_iconst (v := 0) hx hb dX4_send_12 (by decide) ?_
    exact K_13 _ _ ls gM gL gD (p1) (0) hP hD hS (lv_sub hl [0, 1] rfl) hsp
  · have hsp := z_t c1 hsp
    refine lv_iconst (v := 1) hx hb dX4_send_8 (by decide) ?_
    refine lv_goto (tgt := 13) hx hb dX4_send_9 (by decide) ?_
    exact K_13 _ _ ls gM gL gD (p1) (1) hP hD hS (lv_sub hl [0, 1] rfl) hsp
end
section
def s_X4_takeTell_b85 (gB : zF) (gR : zF) (gH : zF) (gM_ : zF) (gI_ : zF) (gD_ : zF) (x2 : Int32) (t0 : Int32) : Option ((zF) × (zF) × (zF)) := (if t0 = 0 then some (gM_, gI_, gD_) else (if (gM_ 10) = (-1) then zb2 (s_X1_below gD_ ((gR 3))) fun (v8 : Int32) (gD9 : zF) => zl (va_up gM_ 10 (((x2 + 1) + v8))) fun (gM11 : zF) => some (gM11, gI_, gD9) else some (gM_, gI_, gD_)))
def s_X4_takeTell_b80 (gB : zF) (gR : zF) (gH : zF) (gM_ : zF) (gI_ : zF) (gD_ : zF) (x2 : Int32) : Option ((zF) × (zF) × (zF)) := (s_X4_takeTell_b85 gB gR gH gM_ gI_ gD_ (x2) (1))
def s_X4_takeTell_b84 (gB : zF) (gR : zF) (gH : zF) (gM_ : zF) (gI_ : zF) (gD_ : zF) (x2 : Int32) : Option ((zF) × (zF) × (zF)) := (s_X4_takeTell_b85 gB gR gH gM_ gI_ gD_ (x2) (0))
def s_X4_takeTell_b39 (gB : zF) (gR : zF) (gH : zF) (gM_ : zF) (gI_ : zF) (gD_ : zF) (x2 : Int32) : Option ((zF) × (zF) × (zF)) := zb2 (s_X4_stir gM_ gI_ gR gD_ (x2)) fun (gI2 : zF) (gD3 : zF) => (if (gH 1) < (gM_ 6) then (s_X4_takeTell_b80 gB gR gH gM_ gI2 gD3 (x2)) else (if (gH 1) = (gM_ 6) then (if (gB 2) ≤ (gH 2) then (s_X4_takeTell_b84 gB gR gH gM_ gI2 gD3 (x2)) else (s_X4_takeTell_b80 gB gR gH gM_ gI2 gD3 (x2))) else (s_X4_takeTell_b84 gB gR gH gM_ gI2 gD3 (x2))))
def s_X4_takeTell (gM : zF) (gB : zF) (gI : zF) (gR : zF) (gD : zF) (gH : zF) (p1 : Int32) : Option ((zF) × (zF) × (zF)) := (if (gH 1) = (gM 6) then (if (gH 2) = (gB 2) then zl (va_up gI 3 (((gI 3) + 1))) fun (gI15 : zF) => some (gM, gI15, gD) else (s_X4_takeTell_b39 gB gR gH gM gI gD (p1))) else (s_X4_takeTell_b39 gB gR gH gM gI gD (p1)))
abbrev rm_X4_takeTell : Room := { frames := 3, cells := 0, slots := 0, locals := 65 }
set_option maxHeartbeats 4000000 in
set_option maxRecDepth 100000 in
theorem c_X4_takeTell (l : Launch) (dD : va_G) (cI cA : ClassId) (q : Nat → Nat) (aR : Nat) (aD : Nat) (ca : Option Nat) (aH : Nat) (gM : zF) (gB : zF) (gI : zF) (gR : zF) (gD : zF) (gH : zF) (p1 : Int32) (r_gM : zF) (r_gI : zF) (r_gD : zF) (hsp : s_X4_takeTell gM gB gI gR gD gH p1 = some (r_gM, r_gI, r_gD)) : zMv l yX4_takeTell wsX4_takeTell rm_X4_takeTell dD cI cA [.ref (q 0), .ref aH, .int p1] ([zM q aR aD ca gM, zB q gB, zI q gI, zR aR gR, zD aD gD, zL aH gH]) ([zM q aR aD ca r_gM, zB q gB, zI q r_gI, zR aR gR, zD aD r_gD, zL aH gH]) := by
  refine zMv_of (cc := cX4_takeTell) (maxL := 4) (by decide) rfl (Nat.le_of_ble_eq_true rfl) ?_
  intro p e s m args below meth c A Q ls hx hb hml hown hts hK hA hP hD hl hret
  have hown : s.vm.findClass RX4 = some m.cls := hown
  have iX3 : ∀ w ∈ wsX30, w ∈ wsX4_takeTell := by decide +kernel
  have iX4 : ∀ w ∈ wsX40, w ∈ wsX4_takeTell := by decide +kernel
  have iX5 : ∀ w ∈ wsX50, w ∈ wsX4_takeTell := by decide +kernel
  have iX0 : ∀ w ∈ wsX00, w ∈ wsX4_takeTell := by decide +kernel
  have iX2 : ∀ w ∈ wsX20, w ∈ wsX4_takeTell := by decide +kernel
  have f128 : (Cond.fieldLinkNest RX4 128 "MeshField$Letter" "number" "I" "MeshField").before args s = true := hK.nw (by decide +kernel)
  have f59 := hts (.fieldLink RX4 59 "MeshField$Machine" "number" "I") (by decide +kernel)
  have f32 := hts (.fieldLink RX4 32 "MeshField$Machine" "dataAt" "I") (by decide +kernel)
  have f40 := hts (.fieldLink RX4 40 "MeshField$Machine" "draws" "LMeshField$Draws;") (by decide +kernel)
  have f36 := hts (.fieldLink RX4 36 "MeshField$Machine" "rules" "LMeshField$Rules;") (by decide +kernel)
  have f148 : (Cond.fieldLinkNest RX4 148 "MeshField$Rules" "wait" "I" "MeshField").before args s = true := hK.nw (by decide +kernel)
  have f129 : (Cond.fieldLinkNest RX4 129 "MeshField$Letter" "rank" "I" "MeshField").before args s = true := hK.nw (by decide +kernel)
  have f12 := hts (.fieldLink RX4 12 "MeshField$Machine" "basis" "LMeshField$Basis;") (by decide +kernel)
  have f68 : (Cond.fieldLinkNest RX4 68 "MeshField$Basis" "rank" "I" "MeshField").before args s = true := hK.nw (by decide +kernel)
  have f21 := hts (.fieldLink RX4 21 "MeshField$Machine" "interval" "LMeshField$Interval;") (by decide +kernel)
  have f116 : (Cond.fieldLinkNest RX4 116 "MeshField$Interval" "heard" "I" "MeshField").before args s = true := hK.nw (by decide +kernel)
  have hS : va_S A s.heap s.heap [] := va_S.rf
  have hl : lv_has ls 4 [(0, .ref (q 0)), (1, .ref aH), (2, .int p1)] := hl
  have K_85 : ∀ (H : Heap) (locs : List Loc) (ls : Array Slot) (gM_ : zF) (gI_ : zF) (gD_ : zF) (x2 : Int32) (t0 : Int32), va_P dD vwCl ([zM q aR aD ca gM_, zB q gB, zI q gI_, zR aR gR, zD aD gD_, zL aH gH]) H → va_D A ([zM q aR aD ca gM_, zB q gB, zI q gI_, zR aR gR, zD aD gD_, zL aH gH]) → va_S A s.heap H locs → lv_has ls 4 [(0, .ref (q 0)), (2, .int x2)] → s_X4_takeTell_b85 gB gR gH gM_ gI_ gD_ x2 t0 = some (r_gM, r_gI, r_gD) → W p l e rm_X4_takeTell s m args below meth c H locs 0 0 Q (F0 m 85 ls [.int t0]) := by
    intro H locs ls gM_ gI_ gD_ x2 t0 hP hD hS hl hsp
    unfold s_X4_takeTell_b85 at hsp
    refine lv_istore_n (lv' := [(3, .int t0), (0, .ref (q 0)), (2, .int x2)]) hx hb dX4_takeTell_85 rfl hl (by decide) rfl (fun ls hl => ?_)
    refine lv_iload_n hx hb dX4_takeTell_86 rfl (lv_at hl 0 rfl) ?_
    refine lv_if_eq (tgt := 120) hx hb dX4_takeTell_87 (by decide) (fun c6 => ?_) (fun c6 => ?_)
    · have hsp := z_t c6 hsp
      obtain ⟨rfl, rfl, rfl⟩ := z_i3 hsp
      exact hret _ _ ls 120 dX4_takeTell_120 hP hD hS
    · have hsp := z_f c6 hsp
      refine lv_aload_n hx hb dX4_takeTell_90 rfl (lv_at hl 1 rfl) ?_
      refine va_get (D := dD) (ci := 4) (v := .int (gM_ 10)) (C := RX4) (T := TX4) (N := 18) hx hb hts iX4 hown hK.1 hP 0 rfl rfl 10 (by decide) f32 (fun _ h9 => h9) rfl dX4_takeTell_91 ?_
      refine lv_iconst (v := (-1)) hx hb dX4_takeTell_94 (by decide) ?_
      refine lv_icmp_ne (tgt := 120) hx hb dX4_takeTell_95 (by decide) (fun c7 => ?_) (fun c7 => ?_)
      · have hsp := z_f c7 hsp
        obtain ⟨rfl, rfl, rfl⟩ := z_i3 hsp
        exact hret _ _ ls 120 dX4_takeTell_120 hP hD hS
      · have hsp := z_t c7 hsp
        refine lv_aload_n hx hb dX4_takeTell_98 rfl (lv_at hl 1 rfl) ?_
        refine lv_iload_n hx hb dX4_takeTell_99 rfl (lv_at hl 2 rfl) ?_
        refine lv_iconst (v := 1) hx hb dX4_takeTell_100 (by decide) ?_
        refine lv_iadd hx hb dX4_takeTell_101 ?_
        refine lv_aload_n hx hb dX4_takeTell_102 rfl (lv_at hl 1 rfl) ?_
        refine va_get (D := dD) (ci := 4) (v := .ref aD) (C := RX4) (T := TX4) (N := 18) hx hb hts iX4 hown hK.1 hP 0 rfl rfl 1 (by decide) f40 (fun _ h9 => h9) rfl dX4_takeTell_103 ?_
        refine lv_aload_n hx hb dX4_takeTell_106 rfl (lv_at hl 1 rfl) ?_
        refine va_get (D := dD) (ci := 4) (v := .ref aR) (C := RX4) (T := TX4) (N := 18) hx hb hts iX4 hown hK.1 hP 0 rfl rfl 0 (by decide) f36 (fun _ h9 => h9) rfl dX4_takeTell_107 ?_
        refine va_getN (D := dD) (ci := 5) (v := .int (gR 3)) (C := RX5) (T := TX5) (N := 4) hx hb hts iX5 hown hK.1 hP 3 rfl rfl 3 (by decide) f148 (fun _ h9 => h9) rfl dX4_takeTell_110 ?_
        obtain ⟨v8, gD9, hc10, hsp⟩ := z_b2 hsp
        refine z_callVi ⟨hx, hb, hml, hown, hts⟩ hK (c_X1_below l dD cI cA aD gD_ ((gR 3)) v8 gD9 hc10) (cwV 1 hts gX4_takeTell_X1_below rfl rfl rfl (by decide +kernel) ⟨Nat.le_of_ble_eq_true rfl, Nat.le_of_ble_eq_true rfl⟩) (zJ.of (wc := [zD aD gD_]) (wc1 := [zD aD gD9]) (wr := [zM q aR aD ca gM_, zB q gB, zI q gI_, zR aR gR, zL aH gH]) (w2 := [zM q aR aD ca gM_, zB q gB, zI q gI_, zR aR gR, zD aD gD9, zL aH gH]) hP hD hS hA [4] [0, 1, 2, 3, 5] [0, 1, 2, 3, 5, 4] rfl rfl rfl rfl rfl rfl rfl) hS 0 1 rfl rfl rfl rfl hl.1 rfl (Nat.le_of_ble_eq_true rfl) dX4_takeTell_113 ⟨Nat.zero_le _, Nat.zero_le _⟩ (fun H locs hP hD hS => ?_)
        refine lv_iadd hx hb dX4_takeTell_116 ?_
        refine va_put (D := dD) (ci := 4) (v := .int ((x2 + 1) + v8)) (ty := .int) (C := RX4) (T := TX4) (N := 18) hx hb hts iX4 tyX4 tyX4_ok nmX4 hown hK.1 hP hD hS 0 rfl rfl 10 (by decide) f32 (fun _ h9 => h9) rfl (by decide +kernel) rfl rfl (Nat.le_of_ble_eq_true rfl) dX4_takeTell_117 (fun H locs hP hD hS => ?_)
        obtain ⟨gM11, egM11, hsp⟩ := z_lt hsp
        have hP : va_P dD vwCl ([zM q aR aD ca gM11, zB q gB, zI q gI_, zR aR gR, zD aD gD9, zL aH gH]) H := by rw [egM11]; exact hP
        have hD : va_D A ([zM q aR aD ca gM11, zB q gB, zI q gI_, zR aR gR, zD aD gD9, zL aH gH]) := by rw [egM11]; exact hD
        obtain ⟨rfl, rfl, rfl⟩ := z_i3 hsp
        exact hret _ _ ls 120 dX4_takeTell_120 hP hD hS
  have K_80 : ∀ (H : Heap) (locs : List Loc) (ls : Array Slot) (gM_ : zF) (gI_ : zF) (gD_ : zF) (x2 : Int32), va_P dD vwCl ([zM q aR aD ca gM_, zB q gB, zI q gI_, zR aR gR, zD aD gD_, zL aH gH]) H → va_D A ([zM q aR aD ca gM_, zB q gB, zI q gI_, zR aR gR, zD aD gD_, zL aH gH]) → va_S A s.heap H locs → lv_has ls 4 [(0, .ref (q 0)), (2, .int x2)] → s_X4_takeTell_b80 gB gR gH gM_ gI_ gD_ x2 = some (r_gM, r_gI, r_gD) → W p l e rm_X4_takeTell s m args below meth c H locs 0 0 Q (F0 m 80 ls []) := by
    intro H locs ls gM_ gI_ gD_ x2 hP hD hS hl hsp
    unfold s_X4_takeTell_b80 at hsp
    refine lv_iconst (v := 1) hx hb dX4_takeTell_80 (by decide) ?_
    refine lv_goto (tgt := 85) hx hb dX4_takeTell_81 (by decide) ?_
    exact K_85 _ _ ls gM_ gI_ gD_ (x2) (1) hP hD hS (lv_sub hl [0, 1] rfl) hsp
  have K_84 : ∀ (H : Heap) (locs : List Loc) (ls : Array Slot) (gM_ : zF) (gI_ : zF) (gD_ : zF) (x2 : Int32), va_P dD vwCl ([zM q aR aD ca gM_, zB q gB, zI q gI_, zR aR gR, zD aD gD_, zL aH gH]) H → va_D A ([zM q aR aD ca gM_, zB q gB, zI q gI_, zR aR gR, zD aD gD_, zL aH gH]) → va_S A s.heap H locs → lv_has ls 4 [(0, .ref (q 0)), (2, .int x2)] → s_X4_takeTell_b84 gB gR gH gM_ gI_ gD_ x2 = some (r_gM, r_gI, r_gD) → W p l e rm_X4_takeTell s m args below meth c H locs 0 0 Q (F0 m 84 ls []) := by
    intro H locs ls gM_ gI_ gD_ x2 hP hD hS hl hsp
    unfold s_X4_takeTell_b84 at hsp
    refine lv_iconst (v := 0) hx hb dX4_takeTell_84 (by decide) ?_
    exact K_85 _ _ ls gM_ gI_ gD_ (x2) (0) hP hD hS (lv_sub hl [0, 1] rfl) hsp
  have K_39 : ∀ (H : Heap) (locs : List Loc) (ls : Array Slot) (gM_ : zF) (gI_ : zF) (gD_ : zF) (x2 : Int32), va_P dD vwCl ([zM q aR aD ca gM_, zB q gB, zI q gI_, zR aR gR, zD aD gD_, zL aH gH]) H → va_D A ([zM q aR aD ca gM_, zB q gB, zI q gI_, zR aR gR, zD aD gD_, zL aH gH]) → va_S A s.heap H locs → lv_has ls 4 [(0, .ref (q 0)), (1, .ref aH), (2, .int x2)] → s_X4_takeTell_b39 gB gR gH gM_ gI_ gD_ x2 = some (r_gM, r_gI, r_gD) → W p l e rm_X4_takeTell s m args below meth c H locs 0 0 Q (F0 m 39 ls []) := by
    intro H locs ls gM_ gI_ gD_ x2 hP hD hS hl hsp
    unfold s_X4_takeTell_b39 at hsp
    refine lv_aload_n hx hb dX4_takeTell_39 rfl (lv_at hl 0 rfl) ?_
    refine lv_iload_n hx hb dX4_takeTell_40 rfl (lv_at hl 2 rfl) ?_
    obtain ⟨gI2, gD3, hc4, hsp⟩ := z_b2 hsp
    refine z_callVv ⟨hx, hb, hml, hown, hts⟩ hK (c_X4_stir l dD cI cA q aR aD ca gM_ gI_ gR gD_ (x2) gI2 gD3 hc4) (cwV 1 hts gX4_takeTell_X4_stir rfl rfl rfl (by decide +kernel) ⟨Nat.le_of_ble_eq_true rfl, Nat.le_of_ble_eq_true rfl⟩) (zJ.of (wc := [zM q aR aD ca gM_, zI q gI_, zR aR gR, zD aD gD_]) (wc1 := [zM q aR aD ca gM_, zI q gI2, zR aR gR, zD aD gD3]) (wr := [zB q gB, zL aH gH]) (w2 := [zM q aR aD ca gM_, zB q gB, zI q gI2, zR aR gR, zD aD gD3, zL aH gH]) hP hD hS hA [0, 2, 3, 4] [1, 5] [2, 0, 3, 4, 5, 1] rfl rfl rfl rfl rfl rfl rfl) hS 0 4 rfl rfl rfl rfl hl.1 rfl (Nat.le_of_ble_eq_true rfl) dX4_takeTell_41 ⟨Nat.zero_le _, Nat.zero_le _⟩ (fun H locs hP hD hS => ?_)
    refine lv_aload_n hx hb dX4_takeTell_44 rfl (lv_at hl 1 rfl) ?_
    refine va_getN (D := dD) (ci := 3) (v := .int (gH 1)) (C := RX3) (T := TX3) (N := 9) hx hb hts iX3 hown hK.1 hP 5 rfl rfl 1 (by decide) f128 (fun _ h9 => h9) rfl dX4_takeTell_45 ?_
    refine lv_aload_n hx hb dX4_takeTell_48 rfl (lv_at hl 0 rfl) ?_
    refine va_get (D := dD) (ci := 4) (v := .int (gM_ 6)) (C := RX4) (T := TX4) (N := 18) hx hb hts iX4 hown hK.1 hP 0 rfl rfl 6 (by decide) f59 (fun _ h9 => h9) rfl dX4_takeTell_49 ?_
    refine lv_icmp_lt (tgt := 80) hx hb dX4_takeTell_52 (by decide) (fun c5 => ?_) (fun c5 => ?_)
    · have hsp := z_t c5 hsp
      exact K_80 _ _ ls gM_ gI2 gD3 (x2) hP hD hS (lv_sub hl [0, 2] rfl) hsp
    · have hsp := z_f c5 hsp
      refine lv_aload_n hx hb dX4_takeTell_55 rfl (lv_at hl 1 rfl) ?_
      refine va_getN (D := dD) (ci := 3) (v := .int (gH 1)) (C := RX3) (T := TX3) (N := 9) hx hb hts iX3 hown hK.1 hP 5 rfl rfl 1 (by decide) f128 (fun _ h9 => h9) rfl dX4_takeTell_56 ?_
      refine lv_aload_n hx hb dX4_takeTell_59 rfl (lv_at hl 0 rfl) ?_
      refine va_get (D := dD) (ci := 4) (v := .int (gM_ 6)) (C := RX4) (T := TX4) (N := 18) hx hb hts iX4 hown hK.1 hP 0 rfl rfl 6 (by decide) f59 (fun _ h9 => h9) rfl dX4_takeTell_60 ?_
      refine lv_icmp_ne (tgt := 84) hx hb dX4_takeTell_63 (by decide) (fun c12 => ?_) (fun c12 => ?_)
      · have hsp := z_f c12 hsp
        exact K_84 _ _ ls gM_ gI2 gD3 (x2) hP hD hS (lv_sub hl [0, 2] rfl) hsp
      · have hsp := z_t c12 hsp
        refine lv_aload_n hx hb dX4_takeTell_66 rfl (lv_at hl 1 rfl) ?_
        refine va_getN (D := dD) (ci := 3) (v := .int (gH 2)) (C := RX3) (T := TX3) (N := 9) hx hb hts iX3 hown hK.1 hP 5 rfl rfl 2 (by decide) f129 (fun _ h9 => h9) rfl dX4_takeTell_67 ?_
        refine lv_aload_n hx hb dX4_takeTell_70 rfl (lv_at hl 0 rfl) ?_
        refine va_get (D := dD) (ci := 4) (v := .ref (q 1)) (C := RX4) (T := TX4) (N := 18) hx hb hts iX4 hown hK.1 hP 0 rfl rfl 2 (by decide) f12 (fun _ h9 => h9) rfl dX4_takeTell_71 ?_
        refine va_getN (D := dD) (ci := 0) (v := .int (gB 2)) (C := RX0) (T := TX0) (N := 3) hx hb hts iX0 hown hK.1 hP 1 rfl rfl 2 (by decide) f68 (fun _ h9 => h9) rfl dX4_takeTell_74 ?_
        refine lv_icmp_ge (tgt := 84) hx hb dX4_takeTell_77 (by decide) (fun c13 => ?_) (fun c13 => ?_)
        · have hsp := z_t c13 hsp
          exact K_84 _ _ ls gM_ gI2 gD3 (x2) hP hD hS (lv_sub hl [0, 2] rfl) hsp
        · have hsp := z_f c13 hsp
          exact K_80 _ _ ls gM_ gI2 gD3 (x2) hP hD hS (lv_sub hl [0, 2] rfl) hsp
  unfold s_X4_takeTell at hsp
  refine lv_aload_n hx hb dX4_takeTell_0 rfl (lv_at hl 1 rfl) ?_
  refine va_getN (D := dD) (ci := 3) (v := .int (gH 1)) (C := RX3) (T := TX3) (N := 9) hx hb hts iX3 hown hK.1 hP 5 rfl rfl 1 (by decide) f128 (fun _ h9 => h9) rfl dX4_takeTell_1 ?_
  refine lv_aload_n hx hb dX4_takeTell_4 rfl (lv_at hl 0 rfl) ?_
  refine va_get (D := dD) (ci := 4) (v := .int (gM 6)) (C := RX4) (T := TX4) (N := 18) hx hb hts iX4 hown hK.1 hP 0 rfl rfl 6 (by decide) f59 (fun _ h9 => h9) rfl dX4_takeTell_5 ?_
  refine lv_icmp_ne (tgt := 39) hx hb dX4_takeTell_8 (by decide) (fun c1 => ?_) (fun c1 => ?_)
  · have hsp := z_f c1 hsp
    exact K_39 _ _ ls gM gI gD (p1) hP hD hS (lv_sub hl [0, 1, 2] rfl) hsp
  · have hsp := z_t c1 hsp
    refine lv_aload_n hx hb dX4_takeTell_11 rfl (lv_at hl 1 rfl) ?_
    refine va_getN (D := dD) (ci := 3) (v := .int (gH 2)) (C := RX3) (T := TX3) (N := 9) hx hb hts iX3 hown hK.1 hP 5 rfl rfl 2 (by decide) f129 (fun _ h9 => h9) rfl dX4_takeTell_12 ?_
    refine lv_aload_n hx hb dX4_takeTell_15 rfl (lv_at hl 0 rfl) ?_
    refine va_get (D := dD) (ci := 4) (v := .ref (q 1)) (C := RX4) (T := TX4) (N := 18) hx hb hts iX4 hown hK.1 hP 0 rfl rfl 2 (by decide) f12 (fun _ h9 => h9) rfl dX4_takeTell_16 ?_
    refine va_getN (D := dD) (ci := 0) (v := .int (gB 2)) (C := RX0) (T := TX0) (N := 3) hx hb hts iX0 hown hK.1 hP 1 rfl rfl 2 (by decide) f68 (fun _ h9 => h9) rfl dX4_takeTell_19 ?_
    refine lv_icmp_ne (tgt := 39) hx hb dX4_takeTell_22 (by decide) (fun c14 => ?_) (fun c14 => ?_)
    · have hsp := z_f c14 hsp
      exact K_39 _ _ ls gM gI gD (p1) hP hD hS (lv_sub hl [0, 1, 2] rfl) hsp
    · have hsp := z_t c14 hsp
      refine lv_aload_n hx hb dX4_takeTell_25 rfl (lv_at hl 0 rfl) ?_
      refine va_get (D := dD) (ci := 4) (v := .ref (q 4)) (C := RX4) (T := TX4) (N := 18) hx hb hts iX4 hown hK.1 hP 0 rfl rfl 3 (by decide) f21 (fun _ h9 => h9) rfl dX4_takeTell_26 ?_
      refine lv_dup hx hb dX4_takeTell_29 rfl ?_
      refine va_getN (D := dD) (ci := 2) (v := .int (gI 3)) (C := RX2) (T := TX2) (N := 4) hx hb hts iX2 hown hK.1 hP 2 rfl rfl 3 (by decide) f116 (fun _ h9 => h9) rfl dX4_takeTell_30 ?_
      refine lv_iconst (v := 1) hx hb dX4_takeTell_33 (by decide) ?_
      refine lv_iadd hx hb dX4_takeTell_34 ?_
      refine va_putN (D := dD) (ci := 2) (v := .int ((gI 3) + 1)) (ty := .int) (C := RX2) (T := TX2) (N := 4) hx hb hts iX2 tyX2 tyX2_ok nmX2 hown hK.1 hP hD hS 2 rfl rfl 3 (by decide) f116 (fun _ h9 => h9) rfl (by decide +kernel) rfl rfl (Nat.le_of_ble_eq_true rfl) dX4_takeTell_35 (fun H locs hP hD hS => ?_)
      obtain ⟨gI15, egI15, hsp⟩ := z_lt hsp
      have hP : va_P dD vwCl ([zM q aR aD ca gM, zB q gB, zI q gI15, zR aR gR, zD aD gD, zL aH gH]) H := by rw [egI15]; exact hP
      have hD : va_D A ([zM q aR aD ca gM, zB q gB, zI q gI15, zR aR gR, zD aD gD, zL aH gH]) := by rw [egI15]; exact hD
      obtain ⟨rfl, rfl, rfl⟩ := z_i3 hsp
      exact hret _ _ ls 38 dX4_takeTell_38 hP hD hS
def s_X4_takeOwnMix (gM : zF) (gB : zF) (mk : zF) (mx : zF) (p1 : Int32) (p2 : Int32) : Option (Int32 × (zF) × (zF) × (zF) × (zF)) := zl (va_up gM 10 ((-1))) fun (gM1 : zF) => zb4 (s_X0_takeIn gB mk mx (p1) (p2)) fun (v2 : Int32) (gB3 : zF) (mk4 : zF) (mx5 : zF) => (if v2 = 0 then some (0, gM1, gB3, mk4, mx5) else (if (gB3 2) = (gM1 7) then zb1 (s_X0_sumOfPieces gB3 mx5) fun (v9 : Int32) => (if v9 = (gM1 8) then some (1, gM1, gB3, mk4, mx5) else zb3 (s_X0_empty gB3 mk4 mx5) fun (gB12 : zF) (mk13 : zF) (mx14 : zF) => zl (va_up gM1 17 (((gM1 17) + 1))) fun (gM16 : zF) => some (1, gM16, gB12, mk13, mx14)) else some (1, gM1, gB3, mk4, mx5)))
abbrev rm_X4_takeOwnMix : Room := { frames := 3, cells := 0, slots := 0, locals := 68 }
set_option maxHeartbeats 4000000 in
set_option maxRecDepth 100000 in
theorem c_X4_takeOwnMix (l : Launch) (dD : va_G) (cI cA : ClassId) (q : Nat → Nat) (aR : Nat) (aD : Nat) (ca : Option Nat) (gM : zF) (gB : zF) (mk : zF) (mx : zF) (p1 : Int32) (p2 : Int32) (rv : Int32) (r_gM : zF) (r_gB : zF) (r_mk : zF) (r_mx : zF) (hsp : s_X4_takeOwnMix gM gB mk mx p1 p2 = some (rv, r_gM, r_gB, r_mk, r_mx)) : zMi l yX4_takeOwnMix wsX4_takeOwnMix rm_X4_takeOwnMix dD cI cA [.ref (q 0), .int p1, .int p2] ([zM q aR aD ca gM, zB q gB, zA cI (q 2) 12 mk, zA cI (q 3) 12 mx]) ([zM q aR aD ca r_gM, zB q r_gB, zA cI (q 2) 12 r_mk, zA cI (q 3) 12 r_mx]) rv := by
  refine zMi_of (cc := cX4_takeOwnMix) (maxL := 3) (by decide) rfl (Nat.le_of_ble_eq_true rfl) ?_
  intro p e s m args below meth c A Q ls hx hb hml hown hts hK hA hP hD hl hret
  have hown : s.vm.findClass RX4 = some m.cls := hown
  have iX4 : ∀ w ∈ wsX40, w ∈ wsX4_takeOwnMix := by decide +kernel
  have iX0 : ∀ w ∈ wsX00, w ∈ wsX4_takeOwnMix := by decide +kernel
  have f32 := hts (.fieldLink RX4 32 "MeshField$Machine" "dataAt" "I") (by decide +kernel)
  have f12 := hts (.fieldLink RX4 12 "MeshField$Machine" "basis" "LMeshField$Basis;") (by decide +kernel)
  have f68 : (Cond.fieldLinkNest RX4 68 "MeshField$Basis" "rank" "I" "MeshField").before args s = true := hK.nw (by decide +kernel)
  have f62 := hts (.fieldLink RX4 62 "MeshField$Machine" "pieces" "I") (by decide +kernel)
  have f56 := hts (.fieldLink RX4 56 "MeshField$Machine" "keptSum" "I") (by decide +kernel)
  have f160 := hts (.fieldLink RX4 160 "MeshField$Machine" "lies" "I") (by decide +kernel)
  have hS : va_S A s.heap s.heap [] := va_S.rf
  have hl : lv_has ls 3 [(0, .ref (q 0)), (1, .int p1), (2, .int p2)] := hl
  unfold s_X4_takeOwnMix at hsp
  refine lv_aload_n hx hb dX4_takeOwnMix_0 rfl (lv_at hl 0 rfl) ?_
  refine lv_iconst (v := (-1)) hx hb dX4_takeOwnMix_1 (by decide) ?_
  refine va_put (D := dD) (ci := 4) (v := .int (-1)) (ty := .int) (C := RX4) (T := TX4) (N := 18) hx hb hts iX4 tyX4 tyX4_ok nmX4 hown hK.1 hP hD hS 0 rfl rfl 10 (by decide) f32 (fun _ h9 => h9) rfl (by decide +kernel) rfl rfl (Nat.le_of_ble_eq_true rfl) dX4_takeOwnMix_2 (fun H locs hP hD hS => ?_)
  obtain ⟨gM1, egM1, hsp⟩ := z_lt hsp
  have hP : va_P dD vwCl ([zM q aR aD ca gM1, zB q gB, zA cI (q 2) 12 mk, zA cI (q 3) 12 mx]) H := by rw [egM1]; exact hP
  have hD : va_D A ([zM q aR aD ca gM1, zB q gB, zA cI (q 2) 12 mk, zA cI (q 3) 12 mx]) := by rw [egM1]; exact hD
  refine lv_aload_n hx hb dX4_takeOwnMix_5 rfl (lv_at hl 0 rfl) ?_
  refine va_get (D := dD) (ci := 4) (v := .ref (q 1)) (C := RX4) (T := TX4) (N := 18) hx hb hts iX4 hown hK.1 hP 0 rfl rfl 2 (by decide) f12 (fun _ h9 => h9) rfl dX4_takeOwnMix_6 ?_
  refine lv_iload_n hx hb dX4_takeOwnMix_9 rfl (lv_at hl 1 rfl) ?_
  refine lv_iload_n hx hb dX4_takeOwnMix_10 rfl (lv_at hl 2 rfl) ?_
  obtain ⟨v2, gB3, mk4, mx5, hc6, hsp⟩ := z_b4 hsp
  refine z_callVi ⟨hx, hb, hml, hown, hts⟩ hK (c_X0_takeIn l dD cI cA q gB mk mx (p1) (p2) v2 gB3 mk4 mx5 hc6) (cwV 2 hts gX4_takeOwnMix_X0_takeIn rfl rfl rfl (by decide +kernel) ⟨Nat.le_of_ble_eq_true rfl, Nat.le_of_ble_eq_true rfl⟩) (zJ.of (wc := [zB q gB, zA cI (q 2) 12 mk, zA cI (q 3) 12 mx]) (wc1 := [zB q gB3, zA cI (q 2) 12 mk4, zA cI (q 3) 12 mx5]) (wr := [zM q aR aD ca gM1]) (w2 := [zM q aR aD ca gM1, zB q gB3, zA cI (q 2) 12 mk4, zA cI (q 3) 12 mx5]) hP hD hS hA [1, 2, 3] [0] [0, 1, 2, 3] rfl rfl rfl rfl rfl rfl rfl) hS 0 0 rfl rfl rfl rfl hl.1 rfl (Nat.le_of_ble_eq_true rfl) dX4_takeOwnMix_11 ⟨Nat.zero_le _, Nat.zero_le _⟩ (fun H locs hP hD hS => ?_)
  refine lv_if_ne (tgt := 19) hx hb dX4_takeOwnMix_14 (by decide) (fun c7 => ?_) (fun c7 => ?_)
  · have hsp := z_f c7 hsp
    refine lv_aload_n hx hb dX4_takeOwnMix_19 rfl (lv_at hl 0 rfl) ?_
    refine va_get (D := dD) (ci := 4) (v := .ref (q 1)) (C := RX4) (T := TX4) (N := 18) hx hb hts iX4 hown hK.1 hP 0 rfl rfl 2 (by decide) f12 (fun _ h9 => h9) rfl dX4_takeOwnMix_20 ?_
    refine va_getN (D := dD) (ci := 0) (v := .int (gB3 2)) (C := RX0) (T := TX0) (N := 3) hx hb hts iX0 hown hK.1 hP 1 rfl rfl 2 (by decide) f68 (fun _ h9 => h9) rfl dX4_takeOwnMix_23 ?_
    refine lv_aload_n hx hb dX4_takeOwnMix_26 rfl (lv_at hl 0 rfl) ?_
    refine va_get (D := dD) (ci := 4) (v := .int (gM1 7)) (C := RX4) (T := TX4) (N := 18) hx hb hts iX4 hown hK.1 hP 0 rfl rfl 7 (by decide) f62 (fun _ h9 => h9) rfl dX4_takeOwnMix_27 ?_
    refine lv_icmp_ne (tgt := 64) hx hb dX4_takeOwnMix_30 (by decide) (fun c8 => ?_) (fun c8 => ?_)
    · have hsp := z_f c8 hsp
      refine lv_iconst (v := 1) hx hb dX4_takeOwnMix_64 (by decide) ?_
      obtain ⟨rfl, rfl, rfl, rfl, rfl⟩ := z_i5 hsp
      exact hret _ _ ls 65 dX4_takeOwnMix_65 rfl hP hD hS
    · have hsp := z_t c8 hsp
      refine lv_aload_n hx hb dX4_takeOwnMix_33 rfl (lv_at hl 0 rfl) ?_
      refine va_get (D := dD) (ci := 4) (v := .ref (q 1)) (C := RX4) (T := TX4) (N := 18) hx hb hts iX4 hown hK.1 hP 0 rfl rfl 2 (by decide) f12 (fun _ h9 => h9) rfl dX4_takeOwnMix_34 ?_
      obtain ⟨v9, hc10, hsp⟩ := z_b1 hsp
      refine z_callVi ⟨hx, hb, hml, hown, hts⟩ hK (c_X0_sumOfPieces l dD cI cA q gB3 mx5 v9 hc10) (cwV 0 hts gX4_takeOwnMix_X0_sumOfPieces rfl rfl rfl (by decide +kernel) ⟨Nat.le_of_ble_eq_true rfl, Nat.le_of_ble_eq_true rfl⟩) (zJ.of (wc := [zB q gB3, zA cI (q 3) 12 mx5]) (wc1 := [zB q gB3, zA cI (q 3) 12 mx5]) (wr := [zM q aR aD ca gM1, zA cI (q 2) 12 mk4]) (w2 := [zM q aR aD ca gM1, zB q gB3, zA cI (q 2) 12 mk4, zA cI (q 3) 12 mx5]) hP hD hS hA [1, 3] [0, 2] [0, 2, 1, 3] rfl rfl rfl rfl rfl rfl rfl) hS 0 0 rfl rfl rfl rfl hl.1 rfl (Nat.le_of_ble_eq_true rfl) dX4_takeOwnMix_37 ⟨Nat.zero_le _, Nat.zero_le _⟩ (fun H locs hP hD hS => ?_)
      refine lv_aload_n hx hb dX4_takeOwnMix_40 rfl (lv_at hl 0 rfl) ?_
      refine va_get (D := dD) (ci := 4) (v := .int (gM1 8)) (C := RX4) (T := TX4) (N := 18) hx hb hts iX4 hown hK.1 hP 0 rfl rfl 8 (by decide) f56 (fun _ h9 => h9) rfl dX4_takeOwnMix_41 ?_
      refine lv_icmp_eq (tgt := 64) hx hb dX4_takeOwnMix_44 (by decide) (fun c11 => ?_) (fun c11 => ?_)
      · have hsp := z_t c11 hsp
        refine lv_iconst (v := 1) hx hb dX4_takeOwnMix_64 (by decide) ?_
        obtain ⟨rfl, rfl, rfl, rfl, rfl⟩ := z_i5 hsp
        exact hret _ _ ls 65 dX4_takeOwnMix_65 rfl hP hD hS
      · have hsp := z_f c11 hsp
        refine lv_aload_n hx hb dX4_takeOwnMix_47 rfl (lv_at hl 0 rfl) ?_
        refine va_get (D := dD) (ci := 4) (v := .ref (q 1)) (C := RX4) (T := TX4) (N := 18) hx hb hts iX4 hown hK.1 hP 0 rfl rfl 2 (by decide) f12 (fun _ h9 => h9) rfl dX4_takeOwnMix_48 ?_
        obtain ⟨gB12, mk13, mx14, hc15, hsp⟩ := z_b3 hsp
        refine z_callVv ⟨hx, hb, hml, hown, hts⟩ hK (c_X0_empty l dD cI cA q gB3 mk4 mx5 gB12 mk13 mx14 hc15) (cwV 0 hts gX4_takeOwnMix_X0_empty rfl rfl rfl (by decide +kernel) ⟨Nat.le_of_ble_eq_true rfl, Nat.le_of_ble_eq_true rfl⟩) (zJ.of (wc := [zB q gB3, zA cI (q 2) 12 mk4, zA cI (q 3) 12 mx5]) (wc1 := [zB q gB12, zA cI (q 2) 12 mk13, zA cI (q 3) 12 mx14]) (wr := [zM q aR aD ca gM1]) (w2 := [zM q aR aD ca gM1, zB q gB12, zA cI (q 2) 12 mk13, zA cI (q 3) 12 mx14]) hP hD hS hA [1, 2, 3] [0] [0, 1, 2, 3] rfl rfl rfl rfl rfl rfl rfl) hS 0 0 rfl rfl rfl rfl hl.1 rfl (Nat.le_of_ble_eq_true rfl) dX4_takeOwnMix_51 ⟨Nat.zero_le _, Nat.zero_le _⟩ (fun H locs hP hD hS => ?_)
        refine lv_aload_n hx hb dX4_takeOwnMix_54 rfl (lv_at hl 0 rfl) ?_
        refine lv_dup hx hb dX4_takeOwnMix_55 rfl ?_
        refine va_get (D := dD) (ci := 4) (v := .int (gM1 17)) (C := RX4) (T := TX4) (N := 18) hx hb hts iX4 hown hK.1 hP 0 rfl rfl 17 (by decide) f160 (fun _ h9 => h9) rfl dX4_takeOwnMix_56 ?_
        refine lv_iconst (v := 1) hx hb dX4_takeOwnMix_59 (by decide) ?_
        refine lv_iadd hx hb dX4_takeOwnMix_60 ?_
        refine va_put (D := dD) (ci := 4) (v := .int ((gM1 17) + 1)) (ty := .int) (C := RX4) (T := TX4) (N := 18) hx hb hts iX4 tyX4 tyX4_ok nmX4 hown hK.1 hP hD hS 0 rfl rfl 17 (by decide) f160 (fun _ h9 => h9) rfl (by decide +kernel) rfl rfl (Nat.le_of_ble_eq_true rfl) dX4_takeOwnMix_61 (fun H locs hP hD hS => ?_)
        obtain ⟨gM16, egM16, hsp⟩ := z_lt hsp
        have hP : va_P dD vwCl ([zM q aR aD ca gM16, zB q gB12, zA cI (q 2) 12 mk13, zA cI (q 3) 12 mx14]) H := by rw [egM16]; exact hP
        have hD : va_D A ([zM q aR aD ca gM16, zB q gB12, zA cI (q 2) 12 mk13, zA cI (q 3) 12 mx14]) := by rw [egM16]; exact hD
        refine lv_iconst (v := 1) hx hb dX4_takeOwnMix_64 (by decide) ?_
        obtain ⟨rfl, rfl, rfl, rfl, rfl⟩ := z_i5 hsp
        exact hret _ _ ls 65 dX4_takeOwnMix_65 rfl hP hD hS
  · have hsp := z_t c7 hsp
    refine lv_iconst (v := 0) hx hb dX4_takeOwnMix_17 (by decide) ?_
    obtain ⟨rfl, rfl, rfl, rfl, rfl⟩ := z_i5 hsp
    exact hret _ _ ls 18 dX4_takeOwnMix_18 rfl hP hD hS
def s_X4_takeMix_b65 (gR : zF) (gH : zF) (gM_ : zF) (gB_ : zF) (mk_ : zF) (mx_ : zF) (gI_ : zF) (gD_ : zF) (x2 : Int32) (t0 : Int32) : Option ((zF) × (zF) × (zF) × (zF) × (zF) × (zF)) := (if t0 = 0 then zb2 (s_X4_stir gM_ gI_ gR gD_ (x2)) fun (gI4 : zF) (gD5 : zF) => some (gM_, gB_, mk_, mx_, gI4, gD5) else zb5 (s_X4_takeOwnMix gM_ gB_ mk_ mx_ ((gH 5)) ((gH 6))) fun (v7 : Int32) (gM8 : zF) (gB9 : zF) (mk10 : zF) (mx11 : zF) => (if v7 = 0 then some (gM8, gB9, mk10, mx11, gI_, gD_) else zb2 (s_X4_stir gM8 gI_ gR gD_ (x2)) fun (gI14 : zF) (gD15 : zF) => some (gM8, gB9, mk10, mx11, gI14, gD15)))
def s_X4_takeMix_b64 (gR : zF) (gH : zF) (gM_ : zF) (gB_ : zF) (mk_ : zF) (mx_ : zF) (gI_ : zF) (gD_ : zF) (x2 : Int32) : Option ((zF) × (zF) × (zF) × (zF) × (zF) × (zF)) := (s_X4_takeMix_b65 gR gH gM_ gB_ mk_ mx_ gI_ gD_ (x2) (0))
def s_X4_takeMix_b27 (gR : zF) (gH : zF) (gM_ : zF) (gB_ : zF) (mk_ : zF) (mx_ : zF) (gI_ : zF) (gD_ : zF) (x2 : Int32) : Option ((zF) × (zF) × (zF) × (zF) × (zF) × (zF)) := (if (gH 1) = (gM_ 6) then (if (gH 3) = (gM_ 7) then (if (gH 4) = (gM_ 8) then (s_X4_takeMix_b65 gR gH gM_ gB_ mk_ mx_ gI_ gD_ (x2) (1)) else (s_X4_takeMix_b64 gR gH gM_ gB_ mk_ mx_ gI_ gD_ (x2))) else (s_X4_takeMix_b64 gR gH gM_ gB_ mk_ mx_ gI_ gD_ (x2))) else (s_X4_takeMix_b64 gR gH gM_ gB_ mk_ mx_ gI_ gD_ (x2)))
def s_X4_takeMix (gM : zF) (gB : zF) (mk : zF) (mx : zF) (gI : zF) (gR : zF) (gD : zF) (gH : zF) (p1 : Int32) : Option ((zF) × (zF) × (zF) × (zF) × (zF) × (zF)) := (if (gH 1) ≤ (gM 6) then (s_X4_takeMix_b27 gR gH gM gB mk mx gI gD (p1)) else zb4 (s_X4_keep gM gB mk mx ((gH 1)) ((gH 3)) ((gH 4))) fun (gM19 : zF) (gB20 : zF) (mk21 : zF) (mx22 : zF) => (s_X4_takeMix_b27 gR gH gM19 gB20 mk21 mx22 gI gD (p1)))
abbrev rm_X4_takeMix : Room := { frames := 4, cells := 0, slots := 0, locals := 90 }
set_option maxHeartbeats 4000000 in
set_option maxRecDepth 100000 in
theorem c_X4_takeMix (l : Launch) (dD : va_G) (cI cA : ClassId) (q : Nat → Nat) (aR : Nat) (aD : Nat) (ca : Option Nat) (aH : Nat) (gM : zF) (gB : zF) (mk : zF) (mx : zF) (gI : zF) (gR : zF) (gD : zF) (gH : zF) (p1 : Int32) (r_gM : zF) (r_gB : zF) (r_mk : zF) (r_mx : zF) (r_gI : zF) (r_gD : zF) (hsp : s_X4_takeMix gM gB mk mx gI gR gD gH p1 = some (r_gM, r_gB, r_mk, r_mx, r_gI, r_gD)) : zMv l yX4_takeMix wsX4_takeMix rm_X4_takeMix dD cI cA [.ref (q 0), .ref aH, .int p1] ([zM q aR aD ca gM, zB q gB, zA cI (q 2) 12 mk, zA cI (q 3) 12 mx, zI q gI, zR aR gR, zD aD gD, zL aH gH]) ([zM q aR aD ca r_gM, zB q r_gB, zA cI (q 2) 12 r_mk, zA cI (q 3) 12 r_mx, zI q r_gI, zR aR gR, zD aD r_gD, zL aH gH]) := by
  refine zMv_of (cc := cX4_takeMix) (maxL := 4) (by decide) rfl (Nat.le_of_ble_eq_true rfl) ?_
  intro p e s m args below meth c A Q ls hx hb hml hown hts hK hA hP hD hl hret
  have hown : s.vm.findClass RX4 = some m.cls := hown
  have iX3 : ∀ w ∈ wsX30, w ∈ wsX4_takeMix := by decide +kernel
  have iX4 : ∀ w ∈ wsX40, w ∈ wsX4_takeMix := by decide +kernel
  have f128 : (Cond.fieldLinkNest RX4 128 "MeshField$Letter" "number" "I" "MeshField").before args s = true := hK.nw (by decide +kernel)
  have f59 := hts (.fieldLink RX4 59 "MeshField$Machine" "number" "I") (by decide +kernel)
  have f151 : (Cond.fieldLinkNest RX4 151 "MeshField$Letter" "mask" "I" "MeshField").before args s = true := hK.nw (by decide +kernel)
  have f154 : (Cond.fieldLinkNest RX4 154 "MeshField$Letter" "mixed" "I" "MeshField").before args s = true := hK.nw (by decide +kernel)
  have f130 : (Cond.fieldLinkNest RX4 130 "MeshField$Letter" "pieces" "I" "MeshField").before args s = true := hK.nw (by decide +kernel)
  have f62 := hts (.fieldLink RX4 62 "MeshField$Machine" "pieces" "I") (by decide +kernel)
  have f131 : (Cond.fieldLinkNest RX4 131 "MeshField$Letter" "programSum" "I" "MeshField").before args s = true := hK.nw (by decide +kernel)
  have f56 := hts (.fieldLink RX4 56 "MeshField$Machine" "keptSum" "I") (by decide +kernel)
  have hS : va_S A s.heap s.heap [] := va_S.rf
  have hl : lv_has ls 4 [(0, .ref (q 0)), (1, .ref aH), (2, .int p1)] := hl
  have K_65 : ∀ (H : Heap) (locs : List Loc) (ls : Array Slot) (gM_ : zF) (gB_ : zF) (mk_ : zF) (mx_ : zF) (gI_ : zF) (gD_ : zF) (x2 : Int32) (t0 : Int32), va_P dD vwCl ([zM q aR aD ca gM_, zB q gB_, zA cI (q 2) 12 mk_, zA cI (q 3) 12 mx_, zI q gI_, zR aR gR, zD aD gD_, zL aH gH]) H → va_D A ([zM q aR aD ca gM_, zB q gB_, zA cI (q 2) 12 mk_, zA cI (q 3) 12 mx_, zI q gI_, zR aR gR, zD aD gD_, zL aH gH]) → va_S A s.heap H locs → lv_has ls 4 [(0, .ref (q 0)), (1, .ref aH), (2, .int x2)] → s_X4_takeMix_b65 gR gH gM_ gB_ mk_ mx_ gI_ gD_ x2 t0 = some (r_gM, r_gB, r_mk, r_mx, r_gI, r_gD) → W p l e rm_X4_takeMix s m args below meth c H locs 0 0 Q (F0 m 65 ls [.int t0]) := by
    intro H locs ls gM_ gB_ mk_ mx_ gI_ gD_ x2 t0 hP hD hS hl hsp
    unfold s_X4_takeMix_b65 at hsp
    refine lv_istore_n (lv' := [(3, .int t0), (0, .ref (q 0)), (1, .ref aH), (2, .int x2)]) hx hb dX4_takeMix_65 rfl hl (by decide) rfl (fun ls hl => ?_)
    refine lv_iload_n hx hb dX4_takeMix_66 rfl (lv_at hl 0 rfl) ?_
    refine lv_if_eq (tgt := 85) hx hb dX4_takeMix_67 (by decide) (fun c3 => ?_) (fun c3 => ?_)
    · have hsp := z_t c3 hsp
      refine lv_aload_n hx hb dX4_takeMix_85 rfl (lv_at hl 1 rfl) ?_
      refine lv_iload_n hx hb dX4_takeMix_86 rfl (lv_at hl 3 rfl) ?_
      obtain ⟨gI4, gD5, hc6, hsp⟩ := z_b2 hsp
      refine z_callVv ⟨hx, hb, hml, hown, hts⟩ hK (c_X4_stir l dD cI cA q aR aD ca gM_ gI_ gR gD_ (x2) gI4 gD5 hc6) (cwV 1 hts gX4_takeMix_X4_stir rfl rfl rfl (by decide +kernel) ⟨Nat.le_of_ble_eq_true rfl, Nat.le_of_ble_eq_true rfl⟩) (zJ.of (wc := [zM q aR aD ca gM_, zI q gI_, zR aR gR, zD aD gD_]) (wc1 := [zM q aR aD ca gM_, zI q gI4, zR aR gR, zD aD gD5]) (wr := [zB q gB_, zA cI (q 2) 12 mk_, zA cI (q 3) 12 mx_, zL aH gH]) (w2 := [zM q aR aD ca gM_, zB q gB_, zA cI (q 2) 12 mk_, zA cI (q 3) 12 mx_, zI q gI4, zR aR gR, zD aD gD5, zL aH gH]) hP hD hS hA [0, 4, 5, 6] [1, 2, 3, 7] [4, 0, 1, 2, 5, 6, 7, 3] rfl rfl rfl rfl rfl rfl rfl) hS 0 4 rfl rfl rfl rfl hl.1 rfl (Nat.le_of_ble_eq_true rfl) dX4_takeMix_87 ⟨Nat.zero_le _, Nat.zero_le _⟩ (fun H locs hP hD hS => ?_)
      obtain ⟨rfl, rfl, rfl, rfl, rfl, rfl⟩ := z_i6 hsp
      exact hret _ _ ls 90 dX4_takeMix_90 hP hD hS
    · have hsp := z_f c3 hsp
      refine lv_aload_n hx hb dX4_takeMix_70 rfl (lv_at hl 1 rfl) ?_
      refine lv_aload_n hx hb dX4_takeMix_71 rfl (lv_at hl 2 rfl) ?_
      refine va_getN (D := dD) (ci := 3) (v := .int (gH 5)) (C := RX3) (T := TX3) (N := 9) hx hb hts iX3 hown hK.1 hP 7 rfl rfl 5 (by decide) f151 (fun _ h9 => h9) rfl dX4_takeMix_72 ?_
      refine lv_aload_n hx hb dX4_takeMix_75 rfl (lv_at hl 2 rfl) ?_
      refine va_getN (D := dD) (ci := 3) (v := .int (gH 6)) (C := RX3) (T := TX3) (N := 9) hx hb hts iX3 hown hK.1 hP 7 rfl rfl 6 (by decide) f154 (fun _ h9 => h9) rfl dX4_takeMix_76 ?_
      obtain ⟨v7, gM8, gB9, mk10, mx11, hc12, hsp⟩ := z_b5 hsp
      refine z_callVi ⟨hx, hb, hml, hown, hts⟩ hK (c_X4_takeOwnMix l dD cI cA q aR aD ca gM_ gB_ mk_ mx_ ((gH 5)) ((gH 6)) v7 gM8 gB9 mk10 mx11 hc12) (cwV 2 hts gX4_takeMix_X4_takeOwnMix rfl rfl rfl (by decide +kernel) ⟨Nat.le_of_ble_eq_true rfl, Nat.le_of_ble_eq_true rfl⟩) (zJ.of (wc := [zM q aR aD ca gM_, zB q gB_, zA cI (q 2) 12 mk_, zA cI (q 3) 12 mx_]) (wc1 := [zM q aR aD ca gM8, zB q gB9, zA cI (q 2) 12 mk10, zA cI (q 3) 12 mx11]) (wr := [zI q gI_, zR aR gR, zD aD gD_, zL aH gH]) (w2 := [zM q aR aD ca gM8, zB q gB9, zA cI (q 2) 12 mk10, zA cI (q 3) 12 mx11, zI q gI_, zR aR gR, zD aD gD_, zL aH gH]) hP hD hS hA [0, 1, 2, 3] [4, 5, 6, 7] [4, 5, 6, 7, 0, 1, 2, 3] rfl rfl rfl rfl rfl rfl rfl) hS 0 4 rfl rfl rfl rfl hl.1 rfl (Nat.le_of_ble_eq_true rfl) dX4_takeMix_79 ⟨Nat.zero_le _, Nat.zero_le _⟩ (fun H locs hP hD hS => ?_)
      refine lv_if_eq (tgt := 90) hx hb dX4_takeMix_82 (by decide) (fun c13 => ?_) (fun c13 => ?_)
      · have hsp := z_t c13 hsp
        obtain ⟨rfl, rfl, rfl, rfl, rfl, rfl⟩ := z_i6 hsp
        exact hret _ _ ls 90 dX4_takeMix_90 hP hD hS
      · have hsp := z_f c13 hsp
        refine lv_aload_n hx hb dX4_takeMix_85 rfl (lv_at hl 1 rfl) ?_
        refine lv_iload_n hx hb dX4_takeMix_86 rfl (lv_at hl 3 rfl) ?_
        obtain ⟨gI14, gD15, hc16, hsp⟩ := z_b2 hsp
        refine z_callVv ⟨hx, hb, hml, hown, hts⟩ hK (c_X4_stir l dD cI cA q aR aD ca gM8 gI_ gR gD_ (x2) gI14 gD15 hc16) (cwV 1 hts gX4_takeMix_X4_stir rfl rfl rfl (by decide +kernel) ⟨Nat.le_of_ble_eq_true rfl, Nat.le_of_ble_eq_true rfl⟩) (zJ.of (wc := [zM q aR aD ca gM8, zI q gI_, zR aR gR, zD aD gD_]) (wc1 := [zM q aR aD ca gM8, zI q gI14, zR aR gR, zD aD gD15]) (wr := [zB q gB9, zA cI (q 2) 12 mk10, zA cI (q 3) 12 mx11, zL aH gH]) (w2 := [zM q aR aD ca gM8, zB q gB9, zA cI (q 2) 12 mk10, zA cI (q 3) 12 mx11, zI q gI14, zR aR gR, zD aD gD15, zL aH gH]) hP hD hS hA [0, 4, 5, 6] [1, 2, 3, 7] [4, 0, 1, 2, 5, 6, 7, 3] rfl rfl rfl rfl rfl rfl rfl) hS 0 4 rfl rfl rfl rfl hl.1 rfl (Nat.le_of_ble_eq_true rfl) dX4_takeMix_87 ⟨Nat.zero_le _, Nat.zero_le _⟩ (fun H locs hP hD hS => ?_)
        obtain ⟨rfl, rfl, rfl, rfl, rfl, rfl⟩ := z_i6 hsp
        exact hret _ _ ls 90 dX4_takeMix_90 hP hD hS
  have K_64 : ∀ (H : Heap) (locs : List Loc) (ls : Array Slot) (gM_ : zF) (gB_ : zF) (mk_ : zF) (mx_ : zF) (gI_ : zF) (gD_ : zF) (x2 : Int32), va_P dD vwCl ([zM q aR aD ca gM_, zB q gB_, zA cI (q 2) 12 mk_, zA cI (q 3) 12 mx_, zI q gI_, zR aR gR, zD aD gD_, zL aH gH]) H → va_D A ([zM q aR aD ca gM_, zB q gB_, zA cI (q 2) 12 mk_, zA cI (q 3) 12 mx_, zI q gI_, zR aR gR, zD aD gD_, zL aH gH]) → va_S A s.heap H locs → lv_has ls 4 [(0, .ref (q 0)), (1, .ref aH), (2, .int x2)] → s_X4_takeMix_b64 gR gH gM_ gB_ mk_ mx_ gI_ gD_ x2 = some (r_gM, r_gB, r_mk, r_mx, r_gI, r_gD) → W p l e rm_X4_takeMix s m args below meth c H locs 0 0 Q (F0 m 64 ls []) := by
    intro H locs ls gM_ gB_ mk_ mx_ gI_ gD_ x2 hP hD hS hl hsp
    unfold s_X4_takeMix_b64 at hsp
    refine lv_iconst (v := 0) hx hb dX4_takeMix_64 (by decide) ?_
    exact K_65 _ _ ls gM_ gB_ mk_ mx_ gI_ gD_ (x2) (0) hP hD hS (lv_sub hl [0, 1, 2] rfl) hsp
  have K_27 : ∀ (H : Heap) (locs : List Loc) (ls : Array Slot) (gM_ : zF) (gB_ : zF) (mk_ : zF) (mx_ : zF) (gI_ : zF) (gD_ : zF) (x2 : Int32), va_P dD vwCl ([zM q aR aD ca gM_, zB q gB_, zA cI (q 2) 12 mk_, zA cI (q 3) 12 mx_, zI q gI_, zR aR gR, zD aD gD_, zL aH gH]) H → va_D A ([zM q aR aD ca gM_, zB q gB_, zA cI (q 2) 12 mk_, zA cI (q 3) 12 mx_, zI q gI_, zR aR gR, zD aD gD_, zL aH gH]) → va_S A s.heap H locs → lv_has ls 4 [(0, .ref (q 0)), (1, .ref aH), (2, .int x2)] → s_X4_takeMix_b27 gR gH gM_ gB_ mk_ mx_ gI_ gD_ x2 = some (r_gM, r_gB, r_mk, r_mx, r_gI, r_gD) → W p l e rm_X4_takeMix s m args below meth c H locs 0 0 Q (F0 m 27 ls []) := by
    intro H locs ls gM_ gB_ mk_ mx_ gI_ gD_ x2 hP hD hS hl hsp
    unfold s_X4_takeMix_b27 at hsp
    refine lv_aload_n hx hb dX4_takeMix_27 rfl (lv_at hl 1 rfl) ?_
    refine va_getN (D := dD) (ci := 3) (v := .int (gH 1)) (C := RX3) (T := TX3) (N := 9) hx hb hts iX3 hown hK.1 hP 7 rfl rfl 1 (by decide) f128 (fun _ h9 => h9) rfl dX4_takeMix_28 ?_
    refine lv_aload_n hx hb dX4_takeMix_31 rfl (lv_at hl 0 rfl) ?_
    refine va_get (D := dD) (ci := 4) (v := .int (gM_ 6)) (C := RX4) (T := TX4) (N := 18) hx hb hts iX4 hown hK.1 hP 0 rfl rfl 6 (by decide) f59 (fun _ h9 => h9) rfl dX4_takeMix_32 ?_
    refine lv_icmp_ne (tgt := 64) hx hb dX4_takeMix_35 (by decide) (fun c2 => ?_) (fun c2 => ?_)
    · have hsp := z_f c2 hsp
      exact K_64 _ _ ls gM_ gB_ mk_ mx_ gI_ gD_ (x2) hP hD hS (lv_sub hl [0, 1, 2] rfl) hsp
    · have hsp := z_t c2 hsp
      refine lv_aload_n hx hb dX4_takeMix_38 rfl (lv_at hl 1 rfl) ?_
      refine va_getN (D := dD) (ci := 3) (v := .int (gH 3)) (C := RX3) (T := TX3) (N := 9) hx hb hts iX3 hown hK.1 hP 7 rfl rfl 3 (by decide) f130 (fun _ h9 => h9) rfl dX4_takeMix_39 ?_
      refine lv_aload_n hx hb dX4_takeMix_42 rfl (lv_at hl 0 rfl) ?_
      refine va_get (D := dD) (ci := 4) (v := .int (gM_ 7)) (C := RX4) (T := TX4) (N := 18) hx hb hts iX4 hown hK.1 hP 0 rfl rfl 7 (by decide) f62 (fun _ h9 => h9) rfl dX4_takeMix_43 ?_
      refine lv_icmp_ne (tgt := 64) hx hb dX4_takeMix_46 (by decide) (fun c17 => ?_) (fun c17 => ?_)
      · have hsp := z_f c17 hsp
        exact K_64 _ _ ls gM_ gB_ mk_ mx_ gI_ gD_ (x2) hP hD hS (lv_sub hl [0, 1, 2] rfl) hsp
      · have hsp := z_t c17 hsp
        refine lv_aload_n hx hb dX4_takeMix_49 rfl (lv_at hl 1 rfl) ?_
        refine va_getN (D := dD) (ci := 3) (v := .int (gH 4)) (C := RX3) (T := TX3) (N := 9) hx hb hts iX3 hown hK.1 hP 7 rfl rfl 4 (by decide) f131 (fun _ h9 => h9) rfl dX4_takeMix_50 ?_
        refine lv_aload_n hx hb dX4_takeMix_53 rfl (lv_at hl 0 rfl) ?_
        refine va_get (D := dD) (ci := 4) (v := .int (gM_ 8)) (C := RX4) (T := TX4) (N := 18) hx hb hts iX4 hown hK.1 hP 0 rfl rfl 8 (by decide) f56 (fun _ h9 => h9) rfl dX4_takeMix_54 ?_
        refine lv_icmp_ne (tgt := 64) hx hb dX4_takeMix_57 (by decide) (fun c18 => ?_) (fun c18 => ?_)
        · have hsp := z_f c18 hsp
          exact K_64 _ _ ls gM_ gB_ mk_ mx_ gI_ gD_ (x2) hP hD hS (lv_sub hl [0, 1, 2] rfl) hsp
        · have hsp := z_t c18 hsp
          refine lv_iconst (v := 1) hx hb dX4_takeMix_60 (by decide) ?_
          refine lv_goto (tgt := 65) hx hb dX4_takeMix_61 (by decide) ?_
          exact K_65 _ _ ls gM_ gB_ mk_ mx_ gI_ gD_ (x2) (1) hP hD hS (lv_sub hl [0, 1, 2] rfl) hsp
  unfold s_X4_takeMix at hsp
  refine lv_aload_n hx hb dX4_takeMix_0 rfl (lv_at hl 1 rfl) ?_
  refine va_getN (D := dD) (ci := 3) (v := .int (gH 1)) (C := RX3) (T := TX3) (N := 9) hx hb hts iX3 hown hK.1 hP 7 rfl rfl 1 (by decide) f128 (fun _ h9 => h9) rfl dX4_takeMix_1 ?_
  refine lv_aload_n hx hb dX4_takeMix_4 rfl (lv_at hl 0 rfl) ?_
  refine va_get (D := dD) (ci := 4) (v := .int (gM 6)) (C := RX4) (T := TX4) (N := 18) hx hb hts iX4 hown hK.1 hP 0 rfl rfl 6 (by decide) f59 (fun _ h9 => h9) rfl dX4_takeMix_5 ?_
  refine lv_icmp_le (tgt := 27) hx hb dX4_takeMix_8 (by decide) (fun c1 => ?_) (fun c1 => ?_)
  · have hsp := z_t c1 hsp
    exact K_27 _ _ ls gM gB mk mx gI gD (p1) hP hD hS (lv_sub hl [0, 1, 2] rfl) hsp
  · have hsp := z_f c1 hsp
    refine lv_aload_n hx hb dX4_takeMix_11 rfl (lv_at hl 0 rfl) ?_
    refine lv_aload_n hx hb dX4_takeMix_12 rfl (lv_at hl 1 rfl) ?_
    refine va_getN (D := dD) (ci := 3) (v := .int (gH 1)) (C := RX3) (T := TX3) (N := 9) hx hb hts iX3 hown hK.1 hP 7 rfl rfl 1 (by decide) f128 (fun _ h9 => h9) rfl dX4_takeMix_13 ?_
    refine lv_aload_n hx hb dX4_takeMix_16 rfl (lv_at hl 1 rfl) ?_
    refine va_getN (D := dD) (ci := 3) (v := .int (gH 3)) (C := RX3) (T := TX3) (N := 9) hx hb hts iX3 hown hK.1 hP 7 rfl rfl 3 (by decide) f130 (fun _ h9 => h9) rfl dX4_takeMix_17 ?_
    refine lv_aload_n hx hb dX4_takeMix_20 rfl (lv_at hl 1 rfl) ?_
    refine va_getN (D := dD) (ci := 3) (v := .int (gH 4)) (C := RX3) (T := TX3) (N := 9) hx hb hts iX3 hown hK.1 hP 7 rfl rfl 4 (by decide) f131 (fun _ h9 => h9) rfl dX4_takeMix_21 ?_
    obtain ⟨gM19, gB20, mk21, mx22, hc23, hsp⟩ := z_b4 hsp
    refine z_callVv ⟨hx, hb, hml, hown, hts⟩ hK (c_X4_keep l dD cI cA q aR aD ca gM gB mk mx ((gH 1)) ((gH 3)) ((gH 4)) gM19 gB20 mk21 mx22 hc23) (cwV 3 hts gX4_takeMix_X4_keep rfl rfl rfl (by decide +kernel) ⟨Nat.le_of_ble_eq_true rfl, Nat.le_of_ble_eq_true rfl⟩) (zJ.of (wc := [zM q aR aD ca gM, zB q gB, zA cI (q 2) 12 mk, zA cI (q 3) 12 mx]) (wc1 := [zM q aR aD ca gM19, zB q gB20, zA cI (q 2) 12 mk21, zA cI (q 3) 12 mx22]) (wr := [zI q gI, zR aR gR, zD aD gD, zL aH gH]) (w2 := [zM q aR aD ca gM19, zB q gB20, zA cI (q 2) 12 mk21, zA cI (q 3) 12 mx22, zI q gI, zR aR gR, zD aD gD, zL aH gH]) hP hD hS hA [0, 1, 2, 3] [4, 5, 6, 7] [4, 5, 6, 7, 0, 1, 2, 3] rfl rfl rfl rfl rfl rfl rfl) hS 0 4 rfl rfl rfl rfl hl.1 rfl (Nat.le_of_ble_eq_true rfl) dX4_takeMix_24 ⟨Nat.zero_le _, Nat.zero_le _⟩ (fun H locs hP hD hS => ?_)
    exact K_27 _ _ ls gM19 gB20 mk21 mx22 gI gD (p1) hP hD hS (lv_sub hl [0, 1, 2] rfl) hsp
def s_X4_take (gM : zF) (gB : zF) (mk : zF) (mx : zF) (gI : zF) (gR : zF) (gD : zF) (gH : zF) (p1 : Int32) : Option ((zF) × (zF) × (zF) × (zF) × (zF) × (zF)) := zb2 (s_X4_takeTurn gM ((gH 7)) ((gH 8))) fun (v1 : Int32) (gM2 : zF) => (if (gH 0) = 1 then zb3 (s_X4_takeTell gM2 gB gI gR gD gH (p1)) fun (gM12 : zF) (gI13 : zF) (gD14 : zF) => some (gM12, gB, mk, mx, gI13, gD14) else zb6 (s_X4_takeMix gM2 gB mk mx gI gR gD gH (p1)) fun (gM5 : zF) (gB6 : zF) (mk7 : zF) (mx8 : zF) (gI9 : zF) (gD10 : zF) => some (gM5, gB6, mk7, mx8, gI9, gD10))
abbrev rm_X4_take : Room := { frames := 5, cells := 0, slots := 0, locals := 113 }
set_option maxHeartbeats 4000000 in
set_option maxRecDepth 100000 in
theorem c_X4_take (l : Launch) (dD : va_G) (cI cA : ClassId) (q : Nat → Nat) (aR : Nat) (aD : Nat) (ca : Option Nat) (aH : Nat) (gM : zF) (gB : zF) (mk : zF) (mx : zF) (gI : zF) (gR : zF) (gD : zF) (gH : zF) (p1 : Int32) (r_gM : zF) (r_gB : zF) (r_mk : zF) (r_mx : zF) (r_gI : zF) (r_gD : zF) (hsp : s_X4_take gM gB mk mx gI gR gD gH p1 = some (r_gM, r_gB, r_mk, r_mx, r_gI, r_gD)) : zMv l yX4_take wsX4_take rm_X4_take dD cI cA [.ref (q 0), .ref aH, .int p1] ([zM q aR aD ca gM, zB q gB, zA cI (q 2) 12 mk, zA cI (q 3) 12 mx, zI q gI, zR aR gR, zD aD gD, zL aH gH]) ([zM q aR aD ca r_gM, zB q r_gB, zA cI (q 2) 12 r_mk, zA cI (q 3) 12 r_mx, zI q r_gI, zR aR gR, zD aD r_gD, zL aH gH]) := by
  refine zMv_of (cc := cX4_take) (maxL := 3) (by decide) rfl (Nat.le_of_ble_eq_true rfl) ?_
  intro p e s m args below meth c A Q ls hx hb hml hown hts hK hA hP hD hl hret
  have hown : s.vm.findClass RX4 = some m.cls := hown
  have iX3 : ∀ w ∈ wsX30, w ∈ wsX4_take := by decide +kernel
  have f134 : (Cond.fieldLinkNest RX4 134 "MeshField$Letter" "turnNumber" "I" "MeshField").before args s = true := hK.nw (by decide +kernel)
  have f135 : (Cond.fieldLinkNest RX4 135 "MeshField$Letter" "turnTick" "I" "MeshField").before args s = true := hK.nw (by decide +kernel)
  have f125 : (Cond.fieldLinkNest RX4 125 "MeshField$Letter" "kind" "I" "MeshField").before args s = true := hK.nw (by decide +kernel)
  have hS : va_S A s.heap s.heap [] := va_S.rf
  have hl : lv_has ls 3 [(0, .ref (q 0)), (1, .ref aH), (2, .int p1)] := hl
  unfold s_X4_take at hsp
  refine lv_aload_n hx hb dX4_take_0 rfl (lv_at hl 0 rfl) ?_
  refine lv_aload_n hx hb dX4_take_1 rfl (lv_at hl 1 rfl) ?_
  refine va_getN (D := dD) (ci := 3) (v := .int (gH 7)) (C := RX3) (T := TX3) (N := 9) hx hb hts iX3 hown hK.1 hP 7 rfl rfl 7 (by decide) f134 (fun _ h9 => h9) rfl dX4_take_2 ?_
  refine lv_aload_n hx hb dX4_take_5 rfl (lv_at hl 1 rfl) ?_
  refine va_getN (D := dD) (ci := 3) (v := .int (gH 8)) (C := RX3) (T := TX3) (N := 9) hx hb hts iX3 hown hK.1 hP 7 rfl rfl 8 (by decide) f135 (fun _ h9 => h9) rfl dX4_take_6 ?_
  obtain ⟨v1, gM2, hc3, hsp⟩ := z_b2 hsp
  refine z_callVi ⟨hx, hb, hml, hown, hts⟩ hK (c_X4_takeTurn l dD cI cA q aR aD ca gM ((gH 7)) ((gH 8)) v1 gM2 hc3) (cwV 2 hts gX4_take_X4_takeTurn rfl rfl rfl (by decide +kernel) ⟨Nat.le_of_ble_eq_true rfl, Nat.le_of_ble_eq_true rfl⟩) (zJ.of (wc := [zM q aR aD ca gM]) (wc1 := [zM q aR aD ca gM2]) (wr := [zB q gB, zA cI (q 2) 12 mk, zA cI (q 3) 12 mx, zI q gI, zR aR gR, zD aD gD, zL aH gH]) (w2 := [zM q aR aD ca gM2, zB q gB, zA cI (q 2) 12 mk, zA cI (q 3) 12 mx, zI q gI, zR aR gR, zD aD gD, zL aH gH]) hP hD hS hA [0] [1, 2, 3, 4, 5, 6, 7] [7, 0, 1, 2, 3, 4, 5, 6] rfl rfl rfl rfl rfl rfl rfl) hS 0 4 rfl rfl rfl rfl hl.1 rfl (Nat.le_of_ble_eq_true rfl) dX4_take_9 ⟨Nat.zero_le _, Nat.zero_le _⟩ (fun H locs hP hD hS => ?_)
  refine lv_pop hx hb dX4_take_12 rfl ?_
  refine lv_aload_n hx hb dX4_take_13 rfl (lv_at hl 1 rfl) ?_
  refine va_getN (D := dD) (ci := 3) (v := .int (gH 0)) (C := RX3) (T := TX3) (N := 9) hx hb hts iX3 hown hK.1 hP 7 rfl rfl 0 (by decide) f125 (fun _ h9 => h9) rfl dX4_take_14 ?_
  refine lv_iconst (v := 1) hx hb dX4_take_17 (by decide) ?_
  refine lv_icmp_ne (tgt := 30) hx hb dX4_take_18 (by decide) (fun c4 => ?_) (fun c4 => ?_)
  · have hsp := z_f c4 hsp
    refine lv_aload_n hx hb dX4_take_30 rfl (lv_at hl 0 rfl) ?_
    refine lv_aload_n hx hb dX4_take_31 rfl (lv_at hl 1 rfl) ?_
    refine lv_iload_n hx hb dX4_take_32 rfl (lv_at hl 2 rfl) ?_
    obtain ⟨gM5, gB6, mk7, mx8, gI9, gD10, hc11, hsp⟩ := z_b6 hsp
    refine z_callVv ⟨hx, hb, hml, hown, hts⟩ hK (c_X4_takeMix l dD cI cA q aR aD ca aH gM2 gB mk mx gI gR gD gH (p1) gM5 gB6 mk7 mx8 gI9 gD10 hc11) (cwV 2 hts gX4_take_X4_takeMix rfl rfl rfl (by decide +kernel) ⟨Nat.le_of_ble_eq_true rfl, Nat.le_of_ble_eq_true rfl⟩) (zJ.of (wc := [zM q aR aD ca gM2, zB q gB, zA cI (q 2) 12 mk, zA cI (q 3) 12 mx, zI q gI, zR aR gR, zD aD gD, zL aH gH]) (wc1 := [zM q aR aD ca gM5, zB q gB6, zA cI (q 2) 12 mk7, zA cI (q 3) 12 mx8, zI q gI9, zR aR gR, zD aD gD10, zL aH gH]) (wr := []) (w2 := [zM q aR aD ca gM5, zB q gB6, zA cI (q 2) 12 mk7, zA cI (q 3) 12 mx8, zI q gI9, zR aR gR, zD aD gD10, zL aH gH]) hP hD hS hA [0, 1, 2, 3, 4, 5, 6, 7] [] [0, 1, 2, 3, 4, 5, 6, 7] rfl rfl rfl rfl rfl rfl rfl) hS 0 4 rfl rfl rfl rfl hl.1 rfl (Nat.le_of_ble_eq_true rfl) dX4_take_33 ⟨Nat.zero_le _, Nat.zero_le _⟩ (fun H locs hP hD hS => ?_)
    obtain ⟨rfl, rfl, rfl, rfl, rfl, rfl⟩ := z_i6 hsp
    exact hret _ _ ls 36 dX4_take_36 hP hD hS
  · have hsp := z_t c4 hsp
    refine lv_aload_n hx hb dX4_take_21 rfl (lv_at hl 0 rfl) ?_
    refine lv_aload_n hx hb dX4_take_22 rfl (lv_at hl 1 rfl) ?_
    refine lv_iload_n hx hb dX4_take_23 rfl (lv_at hl 2 rfl) ?_
    obtain ⟨gM12, gI13, gD14, hc15, hsp⟩ := z_b3 hsp
    refine z_callVv ⟨hx, hb, hml, hown, hts⟩ hK (c_X4_takeTell l dD cI cA q aR aD ca aH gM2 gB gI gR gD gH (p1) gM12 gI13 gD14 hc15) (cwV 2 hts gX4_take_X4_takeTell rfl rfl rfl (by decide +kernel) ⟨Nat.le_of_ble_eq_true rfl, Nat.le_of_ble_eq_true rfl⟩) (zJ.of (wc := [zM q aR aD ca gM2, zB q gB, zI q gI, zR aR gR, zD aD gD, zL aH gH]) (wc1 := [zM q aR aD ca gM12, zB q gB, zI q gI13, zR aR gR, zD aD gD14, zL aH gH]) (wr := [zA cI (q 2) 12 mk, zA cI (q 3) 12 mx]) (w2 := [zM q aR aD ca gM12, zB q gB, zA cI (q 2) 12 mk, zA cI (q 3) 12 mx, zI q gI13, zR aR gR, zD aD gD14, zL aH gH]) hP hD hS hA [0, 1, 4, 5, 6, 7] [2, 3] [2, 3, 0, 1, 4, 5, 6, 7] rfl rfl rfl rfl rfl rfl rfl) hS 0 4 rfl rfl rfl rfl hl.1 rfl (Nat.le_of_ble_eq_true rfl) dX4_take_24 ⟨Nat.zero_le _, Nat.zero_le _⟩ (fun H locs hP hD hS => ?_)
    refine lv_goto (tgt := 36) hx hb dX4_take_27 (by decide) ?_
    obtain ⟨rfl, rfl, rfl, rfl, rfl, rfl⟩ := z_i6 hsp
    exact hret _ _ ls 36 dX4_take_36 hP hD hS
def s_X4_end_b56 (gB : zF) (gR : zF) (gM_ : zF) (gI_ : zF) (gD_ : zF) (x1 : Int32) : Option ((zF) × (zF) × (zF)) := (if (gM_ 11) = 0 then some (gM_, gI_, gD_) else (if (x1 + 1) < (gM_ 12) then some (gM_, gI_, gD_) else zb1 (s_X4_isWholeOf gM_ gB ((gM_ 11))) fun (v4 : Int32) => (if v4 = 0 then some (gM_, gI_, gD_) else zl (va_up gM_ 9 ((gM_ 11))) fun (gM7 : zF) => some (gM7, gI_, gD_))))
def s_X4_end (gM : zF) (gB : zF) (gI : zF) (gR : zF) (gD : zF) (p1 : Int32) : Option ((zF) × (zF) × (zF)) := (if ((p1 + 1) - (gI 1)) < (gI 0) then (s_X4_end_b56 gB gR gM gI gD (p1)) else zl ((zMin (((gI 0) * 2)) ((gR 2)))) fun (x8 : Int32) => zb2 (s_X2_begin gI gD (x8) ((p1 + 1))) fun (gI9 : zF) (gD10 : zF) => (s_X4_end_b56 gB gR gM gI9 gD10 (p1)))
abbrev rm_X4_end : Room := { frames := 2, cells := 0, slots := 0, locals := 44 }
set_option maxHeartbeats 4000000 in
set_option maxRecDepth 100000 in
theorem c_X4_end (l : Launch) (dD : va_G) (cI cA : ClassId) (q : Nat → Nat) (aR : Nat) (aD : Nat) (ca : Option Nat) (gM : zF) (gB : zF) (gI : zF) (gR : zF) (gD : zF) (p1 : Int32) (r_gM : zF) (r_gI : zF) (r_gD : zF) (hsp : s_X4_end gM gB gI gR gD p1 = some (r_gM, r_gI, r_gD)) : zMv l yX4_end wsX4_end rm_X4_end dD cI cA [.ref (q 0), .int p1] ([zM q aR aD ca gM, zB q gB, zI q gI, zR aR gR, zD aD gD]) ([zM q aR aD ca r_gM, zB q gB, zI q r_gI, zR aR gR, zD aD r_gD]) := by
  refine zMv_of (cc := cX4_end) (maxL := 3) (by decide) rfl (Nat.le_of_ble_eq_true rfl) ?_
  intro p e s m args below meth c A Q ls hx hb hml hown hts hK hA hP hD hl hret
  have hown : s.vm.findClass RX4 = some m.cls := hown
  have iX4 : ∀ w ∈ wsX40, w ∈ wsX4_end := by decide +kernel
  have iX2 : ∀ w ∈ wsX20, w ∈ wsX4_end := by decide +kernel
  have iX5 : ∀ w ∈ wsX50, w ∈ wsX4_end := by decide +kernel
  have f21 := hts (.fieldLink RX4 21 "MeshField$Machine" "interval" "LMeshField$Interval;") (by decide +kernel)
  have f163 : (Cond.fieldLinkNest RX4 163 "MeshField$Interval" "began" "I" "MeshField").before args s = true := hK.nw (by decide +kernel)
  have f75 : (Cond.fieldLinkNest RX4 75 "MeshField$Interval" "span" "I" "MeshField").before args s = true := hK.nw (by decide +kernel)
  have f87 := hts (.fieldLink RX4 87 "MeshField$Machine" "turnNumber" "I") (by decide +kernel)
  have f90 := hts (.fieldLink RX4 90 "MeshField$Machine" "turnTick" "I") (by decide +kernel)
  have f179 := hts (.fieldLink RX4 179 "MeshField$Machine" "runs" "I") (by decide +kernel)
  have f36 := hts (.fieldLink RX4 36 "MeshField$Machine" "rules" "LMeshField$Rules;") (by decide +kernel)
  have f166 : (Cond.fieldLinkNest RX4 166 "MeshField$Rules" "high" "I" "MeshField").before args s = true := hK.nw (by decide +kernel)
  have f40 := hts (.fieldLink RX4 40 "MeshField$Machine" "draws" "LMeshField$Draws;") (by decide +kernel)
  have hS : va_S A s.heap s.heap [] := va_S.rf
  have hl : lv_has ls 3 [(0, .ref (q 0)), (1, .int p1)] := hl
  have K_56 : ∀ (H : Heap) (locs : List Loc) (ls : Array Slot) (gM_ : zF) (gI_ : zF) (gD_ : zF) (x1 : Int32), va_P dD vwCl ([zM q aR aD ca gM_, zB q gB, zI q gI_, zR aR gR, zD aD gD_]) H → va_D A ([zM q aR aD ca gM_, zB q gB, zI q gI_, zR aR gR, zD aD gD_]) → va_S A s.heap H locs → lv_has ls 3 [(0, .ref (q 0)), (1, .int x1)] → s_X4_end_b56 gB gR gM_ gI_ gD_ x1 = some (r_gM, r_gI, r_gD) → W p l e rm_X4_end s m args below meth c H locs 0 0 Q (F0 m 56 ls []) := by
    intro H locs ls gM_ gI_ gD_ x1 hP hD hS hl hsp
    unfold s_X4_end_b56 at hsp
    refine lv_aload_n hx hb dX4_end_56 rfl (lv_at hl 0 rfl) ?_
    refine va_get (D := dD) (ci := 4) (v := .int (gM_ 11)) (C := RX4) (T := TX4) (N := 18) hx hb hts iX4 hown hK.1 hP 0 rfl rfl 11 (by decide) f87 (fun _ h9 => h9) rfl dX4_end_57 ?_
    refine lv_if_eq (tgt := 92) hx hb dX4_end_60 (by decide) (fun c2 => ?_) (fun c2 => ?_)
    · have hsp := z_t c2 hsp
      obtain ⟨rfl, rfl, rfl⟩ := z_i3 hsp
      exact hret _ _ ls 92 dX4_end_92 hP hD hS
    · have hsp := z_f c2 hsp
      refine lv_iload_n hx hb dX4_end_63 rfl (lv_at hl 1 rfl) ?_
      refine lv_iconst (v := 1) hx hb dX4_end_64 (by decide) ?_
      refine lv_iadd hx hb dX4_end_65 ?_
      refine lv_aload_n hx hb dX4_end_66 rfl (lv_at hl 0 rfl) ?_
      refine va_get (D := dD) (ci := 4) (v := .int (gM_ 12)) (C := RX4) (T := TX4) (N := 18) hx hb hts iX4 hown hK.1 hP 0 rfl rfl 12 (by decide) f90 (fun _ h9 => h9) rfl dX4_end_67 ?_
      refine lv_icmp_lt (tgt := 92) hx hb dX4_end_70 (by decide) (fun c3 => ?_) (fun c3 => ?_)
      · have hsp := z_t c3 hsp
        obtain ⟨rfl, rfl, rfl⟩ := z_i3 hsp
        exact hret _ _ ls 92 dX4_end_92 hP hD hS
      · have hsp := z_f c3 hsp
        refine lv_aload_n hx hb dX4_end_73 rfl (lv_at hl 0 rfl) ?_
        refine lv_aload_n hx hb dX4_end_74 rfl (lv_at hl 0 rfl) ?_
        refine va_get (D := dD) (ci := 4) (v := .int (gM_ 11)) (C := RX4) (T := TX4) (N := 18) hx hb hts iX4 hown hK.1 hP 0 rfl rfl 11 (by decide) f87 (fun _ h9 => h9) rfl dX4_end_75 ?_
        obtain ⟨v4, hc5, hsp⟩ := z_b1 hsp
        refine z_callVi ⟨hx, hb, hml, hown, hts⟩ hK (c_X4_isWholeOf l dD cI cA q aR aD ca gM_ gB ((gM_ 11)) v4 hc5) (cwV 1 hts gX4_end_X4_isWholeOf rfl rfl rfl (by decide +kernel) ⟨Nat.le_of_ble_eq_true rfl, Nat.le_of_ble_eq_true rfl⟩) (zJ.of (wc := [zM q aR aD ca gM_, zB q gB]) (wc1 := [zM q aR aD ca gM_, zB q gB]) (wr := [zI q gI_, zR aR gR, zD aD gD_]) (w2 := [zM q aR aD ca gM_, zB q gB, zI q gI_, zR aR gR, zD aD gD_]) hP hD hS hA [0, 1] [2, 3, 4] [3, 4, 0, 1, 2] rfl rfl rfl rfl rfl rfl rfl) hS 0 4 rfl rfl rfl rfl hl.1 rfl (Nat.le_of_ble_eq_true rfl) dX4_end_78 ⟨Nat.zero_le _, Nat.zero_le _⟩ (fun H locs hP hD hS => ?_)
        refine lv_if_eq (tgt := 92) hx hb dX4_end_81 (by decide) (fun c6 => ?_) (fun c6 => ?_)
        · have hsp := z_t c6 hsp
          obtain ⟨rfl, rfl, rfl⟩ := z_i3 hsp
          exact hret _ _ ls 92 dX4_end_92 hP hD hS
        · have hsp := z_f c6 hsp
          refine lv_aload_n hx hb dX4_end_84 rfl (lv_at hl 0 rfl) ?_
          refine lv_aload_n hx hb dX4_end_85 rfl (lv_at hl 0 rfl) ?_
          refine va_get (D := dD) (ci := 4) (v := .int (gM_ 11)) (C := RX4) (T := TX4) (N := 18) hx hb hts iX4 hown hK.1 hP 0 rfl rfl 11 (by decide) f87 (fun _ h9 => h9) rfl dX4_end_86 ?_
          refine va_put (D := dD) (ci := 4) (v := .int (gM_ 11)) (ty := .int) (C := RX4) (T := TX4) (N := 18) hx hb hts iX4 tyX4 tyX4_ok nmX4 hown hK.1 hP hD hS 0 rfl rfl 9 (by decide) f179 (fun _ h9 => h9) rfl (by decide +kernel) rfl rfl (Nat.le_of_ble_eq_true rfl) dX4_end_89 (fun H locs hP hD hS => ?_)
          obtain ⟨gM7, egM7, hsp⟩ := z_lt hsp
          have hP : va_P dD vwCl ([zM q aR aD ca gM7, zB q gB, zI q gI_, zR aR gR, zD aD gD_]) H := by rw [egM7]; exact hP
          have hD : va_D A ([zM q aR aD ca gM7, zB q gB, zI q gI_, zR aR gR, zD aD gD_]) := by rw [egM7]; exact hD
          obtain ⟨rfl, rfl, rfl⟩ := z_i3 hsp
          exact hret _ _ ls 92 dX4_end_92 hP hD hS
  unfold s_X4_end at hsp
  refine lv_iload_n hx hb dX4_end_0 rfl (lv_at hl 1 rfl) ?_
  refine lv_iconst (v := 1) hx hb dX4_end_1 (by decide) ?_
  refine lv_iadd hx hb dX4_end_2 ?_
  refine lv_aload_n hx hb dX4_end_3 rfl (lv_at hl 0 rfl) ?_
  refine va_get (D := dD) (ci := 4) (v := .ref (q 4)) (C := RX4) (T := TX4) (N := 18) hx hb hts iX4 hown hK.1 hP 0 rfl rfl 3 (by decide) f21 (fun _ h9 => h9) rfl dX4_end_4 ?_
  refine va_getN (D := dD) (ci := 2) (v := .int (gI 1)) (C := RX2) (T := TX2) (N := 4) hx hb hts iX2 hown hK.1 hP 2 rfl rfl 1 (by decide) f163 (fun _ h9 => h9) rfl dX4_end_7 ?_
  refine lv_isub hx hb dX4_end_10 ?_
  refine lv_aload_n hx hb dX4_end_11 rfl (lv_at hl 0 rfl) ?_
  refine va_get (D := dD) (ci := 4) (v := .ref (q 4)) (C := RX4) (T := TX4) (N := 18) hx hb hts iX4 hown hK.1 hP 0 rfl rfl 3 (by decide) f21 (fun _ h9 => h9) rfl dX4_end_12 ?_
  refine va_getN (D := dD) (ci := 2) (v := .int (gI 0)) (C := RX2) (T := TX2) (N := 4) hx hb hts iX2 hown hK.1 hP 2 rfl rfl 0 (by decide) f75 (fun _ h9 => h9) rfl dX4_end_15 ?_
  refine lv_icmp_lt (tgt := 56) hx hb dX4_end_18 (by decide) (fun c1 => ?_) (fun c1 => ?_)
  · have hsp := z_t c1 hsp
    exact K_56 _ _ ls gM gI gD (p1) hP hD hS (lv_sub hl [0, 1] rfl) hsp
  · have hsp := z_f c1 hsp
    refine lv_aload_n hx hb dX4_end_21 rfl (lv_at hl 0 rfl) ?_
    refine va_get (D := dD) (ci := 4) (v := .ref (q 4)) (C := RX4) (T := TX4) (N := 18) hx hb hts iX4 hown hK.1 hP 0 rfl rfl 3 (by decide) f21 (fun _ h9 => h9) rfl dX4_end_22 ?_
    refine va_getN (D := dD) (ci := 2) (v := .int (gI 0)) (C := RX2) (T := TX2) (N := 4) hx hb hts iX2 hown hK.1 hP 2 rfl rfl 0 (by decide) f75 (fun _ h9 => h9) rfl dX4_end_25 ?_
    refine lv_iconst (v := 2) hx hb dX4_end_28 (by decide) ?_
    refine lv_imul hx hb dX4_end_29 ?_
    refine lv_aload_n hx hb dX4_end_30 rfl (lv_at hl 0 rfl) ?_
    refine va_get (D := dD) (ci := 4) (v := .ref aR) (C := RX4) (T := TX4) (N := 18) hx hb hts iX4 hown hK.1 hP 0 rfl rfl 0 (by decide) f36 (fun _ h9 => h9) rfl dX4_end_31 ?_
    refine va_getN (D := dD) (ci := 5) (v := .int (gR 2)) (C := RX5) (T := TX5) (N := 4) hx hb hts iX5 hown hK.1 hP 3 rfl rfl 2 (by decide) f166 (fun _ h9 => h9) rfl dX4_end_34 ?_
    refine va_mmin hx hb (hml.trans hl.1.symm) hown (hts (.methodLink RX4 169 Lib.Math.min.name) (by decide +kernel)) (hts (.static Lib.Math.min.name) (by decide +kernel)) (hts (.initialized "java/lang/Math") (by decide +kernel)) (hts (.code Lib.Math.min.name Lib.Math.min.code 2 (some .int)) (by decide +kernel)) (Nat.le_of_ble_eq_true rfl) (Nat.le_of_ble_eq_true rfl) (Nat.zero_le _) (Nat.zero_le _) dX4_end_37 ?_
    refine z_top (y := (zMin (((gI 0) * 2)) ((gR 2)))) rfl ?_
    obtain ⟨x8, ex8, hsp⟩ := z_lt hsp
    refine z_top ex8 ?_
    refine lv_istore_n (lv' := [(2, .int x8), (0, .ref (q 0)), (1, .int p1)]) hx hb dX4_end_40 rfl hl (by decide) rfl (fun ls hl => ?_)
    refine lv_aload_n hx hb dX4_end_41 rfl (lv_at hl 1 rfl) ?_
    refine va_get (D := dD) (ci := 4) (v := .ref (q 4)) (C := RX4) (T := TX4) (N := 18) hx hb hts iX4 hown hK.1 hP 0 rfl rfl 3 (by decide) f21 (fun _ h9 => h9) rfl dX4_end_42 ?_
    refine lv_iload_n hx hb dX4_end_45 rfl (lv_at hl 0 rfl) ?_
    refine lv_iload_n hx hb dX4_end_46 rfl (lv_at hl 2 rfl) ?_
    refine lv_iconst (v := 1) hx hb dX4_end_47 (by decide) ?_
    refine lv_iadd hx hb dX4_end_48 ?_
    refine lv_aload_n hx hb dX4_end_49 rfl (lv_at hl 1 rfl) ?_
    refine va_get (D := dD) (ci := 4) (v := .ref aD) (C := RX4) (T := TX4) (N := 18) hx hb hts iX4 hown hK.1 hP 0 rfl rfl 1 (by decide) f40 (fun _ h9 => h9) rfl dX4_end_50 ?_
    obtain ⟨gI9, gD10, hc11, hsp⟩ := z_b2 hsp
    refine z_callVv ⟨hx, hb, hml, hown, hts⟩ hK (c_X2_begin l dD cI cA q aD gI gD (x8) ((p1 + 1)) gI9 gD10 hc11) (cwV 3 hts gX4_end_X2_begin rfl rfl rfl (by decide +kernel) ⟨Nat.le_of_ble_eq_true rfl, Nat.le_of_ble_eq_true rfl⟩) (zJ.of (wc := [zI q gI, zD aD gD]) (wc1 := [zI q gI9, zD aD gD10]) (wr := [zM q aR aD ca gM, zB q gB, zR aR gR]) (w2 := [zM q aR aD ca gM, zB q gB, zI q gI9, zR aR gR, zD aD gD10]) hP hD hS hA [2, 4] [0, 1, 3] [0, 1, 3, 2, 4] rfl rfl rfl rfl rfl rfl rfl) hS 0 2 rfl rfl rfl rfl hl.1 rfl (Nat.le_of_ble_eq_true rfl) dX4_end_53 ⟨Nat.zero_le _, Nat.zero_le _⟩ (fun H locs hP hD hS => ?_)
    exact K_56 _ _ ls gM gI9 gD10 (p1) hP hD hS (lv_sub hl [1, 2] rfl) hsp
def s_X4_answer (gM : zF) (gB : zF) (gI : zF) (p1 : Int32) : Option Int32 := (if p1 = 0 then some ((gM 6)) else (if p1 = 1 then some ((gM 7)) else (if p1 = 2 then some ((gB 2)) else (if p1 = 3 then zb1 (s_X4_isWhole gM gB) fun (v5 : Int32) => (if v5 = 0 then some (0) else some (1)) else (if p1 = 4 then some ((gM 9)) else (if p1 = 5 then some ((gI 0)) else (if p1 = 6 then some ((gI 1)) else (if p1 = 7 then some ((gI 2)) else (if p1 = 8 then some ((gI 3)) else (if p1 = 9 then some ((gM 10)) else (if p1 = 10 then some ((gM 13)) else (if p1 = 11 then some ((gM 14)) else (if p1 = 12 then some ((gM 15)) else (if p1 = 13 then some ((gM 16)) else (if p1 = 14 then some ((gM 17)) else (if p1 = 15 then some ((gM 11)) else (if p1 = 16 then some ((gM 12)) else some ((-1)))))))))))))))))))
abbrev rm_X4_answer : Room := { frames := 1, cells := 0, slots := 0, locals := 20 }
set_option maxHeartbeats 4000000 in
set_option maxRecDepth 100000 in
theorem c_X4_answer (l : Launch) (dD : va_G) (cI cA : ClassId) (q : Nat → Nat) (aR : Nat) (aD : Nat) (ca : Option Nat) (gM : zF) (gB : zF) (gI : zF) (p1 : Int32) (rv : Int32) (hsp : s_X4_answer gM gB gI p1 = some rv) : zMi l yX4_answer wsX4_answer rm_X4_answer dD cI cA [.ref (q 0), .int p1] ([zM q aR aD ca gM, zB q gB, zI q gI]) ([zM q aR aD ca gM, zB q gB, zI q gI]) rv := by
  refine zMi_of (cc := cX4_answer) (maxL := 2) (by decide) rfl (Nat.le_of_ble_eq_true rfl) ?_
  intro p e s m args below meth c A Q ls hx hb hml hown hts hK hA hP hD hl hret
  have hown : s.vm.findClass RX4 = some m.cls := hown
  have iX4 : ∀ w ∈ wsX40, w ∈ wsX4_answer := by decide +kernel
  have iX0 : ∀ w ∈ wsX00, w ∈ wsX4_answer := by decide +kernel
  have iX2 : ∀ w ∈ wsX20, w ∈ wsX4_answer := by decide +kernel
  have f59 := hts (.fieldLink RX4 59 "MeshField$Machine" "number" "I") (by decide +kernel)
  have f62 := hts (.fieldLink RX4 62 "MeshField$Machine" "pieces" "I") (by decide +kernel)
  have f12 := hts (.fieldLink RX4 12 "MeshField$Machine" "basis" "LMeshField$Basis;") (by decide +kernel)
  have f68 : (Cond.fieldLinkNest RX4 68 "MeshField$Basis" "rank" "I" "MeshField").before args s = true := hK.nw (by decide +kernel)
  have f179 := hts (.fieldLink RX4 179 "MeshField$Machine" "runs" "I") (by decide +kernel)
  have f21 := hts (.fieldLink RX4 21 "MeshField$Machine" "interval" "LMeshField$Interval;") (by decide +kernel)
  have f75 : (Cond.fieldLinkNest RX4 75 "MeshField$Interval" "span" "I" "MeshField").before args s = true := hK.nw (by decide +kernel)
  have f163 : (Cond.fieldLinkNest RX4 163 "MeshField$Interval" "began" "I" "MeshField").before args s = true := hK.nw (by decide +kernel)
  have f113 : (Cond.fieldLinkNest RX4 113 "MeshField$Interval" "tellsAt" "I" "MeshField").before args s = true := hK.nw (by decide +kernel)
  have f116 : (Cond.fieldLinkNest RX4 116 "MeshField$Interval" "heard" "I" "MeshField").before args s = true := hK.nw (by decide +kernel)
  have f32 := hts (.fieldLink RX4 32 "MeshField$Machine" "dataAt" "I") (by decide +kernel)
  have f122 := hts (.fieldLink RX4 122 "MeshField$Machine" "tellsSent" "I") (by decide +kernel)
  have f110 := hts (.fieldLink RX4 110 "MeshField$Machine" "mixesSent" "I") (by decide +kernel)
  have f182 := hts (.fieldLink RX4 182 "MeshField$Machine" "spoilt" "I") (by decide +kernel)
  have f185 := hts (.fieldLink RX4 185 "MeshField$Machine" "lost" "I") (by decide +kernel)
  have f160 := hts (.fieldLink RX4 160 "MeshField$Machine" "lies" "I") (by decide +kernel)
  have f87 := hts (.fieldLink RX4 87 "MeshField$Machine" "turnNumber" "I") (by decide +kernel)
  have f90 := hts (.fieldLink RX4 90 "MeshField$Machine" "turnTick" "I") (by decide +kernel)
  have hS : va_S A s.heap s.heap [] := va_S.rf
  have hl : lv_has ls 2 [(0, .ref (q 0)), (1, .int p1)] := hl
  unfold s_X4_answer at hsp
  refine lv_iload_n hx hb dX4_answer_0 rfl (lv_at hl 1 rfl) ?_
  by_cases c1 : p1 = 0
  · have hsp := z_t c1 hsp
    refine lv_tableIn (tgt := 84) (off := 83) hx hb dX4_answer_1 (by rw [c1]; decide) (by rw [c1]; decide) (by rw [c1]; rfl) (by decide) ?_
    refine lv_aload_n hx hb dX4_answer_84 rfl (lv_at hl 0 rfl) ?_
    refine va_get (D := dD) (ci := 4) (v := .int (gM 6)) (C := RX4) (T := TX4) (N := 18) hx hb hts iX4 hown hK.1 hP 0 rfl rfl 6 (by decide) f59 (fun _ h9 => h9) rfl dX4_answer_85 ?_
    obtain rfl := Option.some.inj hsp
    exact hret _ _ ls 88 dX4_answer_88 rfl hP hD hS
  have hsp := z_f c1 hsp
  by_cases c2 : p1 = 1
  · have hsp := z_t c2 hsp
    refine lv_tableIn (tgt := 89) (off := 88) hx hb dX4_answer_1 (by rw [c2]; decide) (by rw [c2]; decide) (by rw [c2]; rfl) (by decide) ?_
    refine lv_aload_n hx hb dX4_answer_89 rfl (lv_at hl 0 rfl) ?_
    refine va_get (D := dD) (ci := 4) (v := .int (gM 7)) (C := RX4) (T := TX4) (N := 18) hx hb hts iX4 hown hK.1 hP 0 rfl rfl 7 (by decide) f62 (fun _ h9 => h9) rfl dX4_answer_90 ?_
    obtain rfl := Option.some.inj hsp
    exact hret _ _ ls 93 dX4_answer_93 rfl hP hD hS
  have hsp := z_f c2 hsp
  by_cases c3 : p1 = 2
  · have hsp := z_t c3 hsp
    refine lv_tableIn (tgt := 94) (off := 93) hx hb dX4_answer_1 (by rw [c3]; decide) (by rw [c3]; decide) (by rw [c3]; rfl) (by decide) ?_
    refine lv_aload_n hx hb dX4_answer_94 rfl (lv_at hl 0 rfl) ?_
    refine va_get (D := dD) (ci := 4) (v := .ref (q 1)) (C := RX4) (T := TX4) (N := 18) hx hb hts iX4 hown hK.1 hP 0 rfl rfl 2 (by decide) f12 (fun _ h9 => h9) rfl dX4_answer_95 ?_
    refine va_getN (D := dD) (ci := 0) (v := .int (gB 2)) (C := RX0) (T := TX0) (N := 3) hx hb hts iX0 hown hK.1 hP 1 rfl rfl 2 (by decide) f68 (fun _ h9 => h9) rfl dX4_answer_98 ?_
    obtain rfl := Option.some.inj hsp
    exact hret _ _ ls 101 dX4_answer_101 rfl hP hD hS
  have hsp := z_f c3 hsp
  by_cases c4 : p1 = 3
  · have hsp := z_t c4 hsp
    refine lv_tableIn (tgt := 102) (off := 101) hx hb dX4_answer_1 (by rw [c4]; decide) (by rw [c4]; decide) (by rw [c4]; rfl) (by decide) ?_
    refine lv_aload_n hx hb dX4_answer_102 rfl (lv_at hl 0 rfl) ?_
    obtain ⟨v5, hc6, hsp⟩ := z_b1 hsp
    refine z_callVi ⟨hx, hb, hml, hown, hts⟩ hK (c_X4_isWhole l dD cI cA q aR aD ca gM gB v5 hc6) (cwV 0 hts gX4_answer_X4_isWhole rfl rfl rfl (by decide +kernel) ⟨Nat.le_of_ble_eq_true rfl, Nat.le_of_ble_eq_true rfl⟩) (zJ.of (wc := [zM q aR aD ca gM, zB q gB]) (wc1 := [zM q aR aD ca gM, zB q gB]) (wr := [zI q gI]) (w2 := [zM q aR aD ca gM, zB q gB, zI q gI]) hP hD hS hA [0, 1] [2] [1, 2, 0] rfl rfl rfl rfl rfl rfl rfl) hS 0 4 rfl rfl rfl rfl hl.1 rfl (Nat.le_of_ble_eq_true rfl) dX4_answer_103 ⟨Nat.zero_le _, Nat.zero_le _⟩ (fun H locs hP hD hS => ?_)
    refine lv_if_eq (tgt := 113) hx hb dX4_answer_106 (by decide) (fun c7 => ?_) (fun c7 => ?_)
    · have hsp := z_t c7 hsp
      refine lv_iconst (v := 0) hx hb dX4_answer_113 (by decide) ?_
      obtain rfl := Option.some.inj hsp
      exact hret _ _ ls 114 dX4_answer_114 rfl hP hD hS
    · have hsp := z_f c7 hsp
      refine lv_iconst (v := 1) hx hb dX4_answer_109 (by decide) ?_
      refine lv_goto (tgt := 114) hx hb dX4_answer_110 (by decide) ?_
      obtain rfl := Option.some.inj hsp
      exact hret _ _ ls 114 dX4_answer_114 rfl hP hD hS
  have hsp := z_f c4 hsp
  by_cases c8 : p1 = 4
  · have hsp := z_t c8 hsp
    refine lv_tableIn (tgt := 115) (off := 114) hx hb dX4_answer_1 (by rw [c8]; decide) (by rw [c8]; decide) (by rw [c8]; rfl) (by decide) ?_
    refine lv_aload_n hx hb dX4_answer_115 rfl (lv_at hl 0 rfl) ?_
    refine va_get (D := dD) (ci := 4) (v := .int (gM 9)) (C := RX4) (T := TX4) (N := 18) hx hb hts iX4 hown hK.1 hP 0 rfl rfl 9 (by decide) f179 (fun _ h9 => h9) rfl dX4_answer_116 ?_
    obtain rfl := Option.some.inj hsp
    exact hret _ _ ls 119 dX4_answer_119 rfl hP hD hS
  have hsp := z_f c8 hsp
  by_cases c9 : p1 = 5
  · have hsp := z_t c9 hsp
    refine lv_tableIn (tgt := 120) (off := 119) hx hb dX4_answer_1 (by rw [c9]; decide) (by rw [c9]; decide) (by rw [c9]; rfl) (by decide) ?_
    refine lv_aload_n hx hb dX4_answer_120 rfl (lv_at hl 0 rfl) ?_
    refine va_get (D := dD) (ci := 4) (v := .ref (q 4)) (C := RX4) (T := TX4) (N := 18) hx hb hts iX4 hown hK.1 hP 0 rfl rfl 3 (by decide) f21 (fun _ h9 => h9) rfl dX4_answer_121 ?_
    refine va_getN (D := dD) (ci := 2) (v := .int (gI 0)) (C := RX2) (T := TX2) (N := 4) hx hb hts iX2 hown hK.1 hP 2 rfl rfl 0 (by decide) f75 (fun _ h9 => h9) rfl dX4_answer_124 ?_
    obtain rfl := Option.some.inj hsp
    exact hret _ _ ls 127 dX4_answer_127 rfl hP hD hS
  have hsp := z_f c9 hsp
  by_cases c10 : p1 = 6
  · have hsp := z_t c10 hsp
    refine lv_tableIn (tgt := 128) (off := 127) hx hb dX4_answer_1 (by rw [c10]; decide) (by rw [c10]; decide) (by rw [c10]; rfl) (by decide) ?_
    refine lv_aload_n hx hb dX4_answer_128 rfl (lv_at hl 0 rfl) ?_
    refine va_get (D := dD) (ci := 4) (v := .ref (q 4)) (C := RX4) (T := TX4) (N := 18) hx hb hts iX4 hown hK.1 hP 0 rfl rfl 3 (by decide) f21 (fun _ h9 => h9) rfl dX4_answer_129 ?_
    refine va_getN (D := dD) (ci := 2) (v := .int (gI 1)) (C := RX2) (T := TX2) (N := 4) hx hb hts iX2 hown hK.1 hP 2 rfl rfl 1 (by decide) f163 (fun _ h9 => h9) rfl dX4_answer_132 ?_
    obtain rfl := Option.some.inj hsp
    exact hret _ _ ls 135 dX4_answer_135 rfl hP hD hS
  have hsp := z_f c10 hsp
  by_cases c11 : p1 = 7
  · have hsp := z_t c11 hsp
    refine lv_tableIn (tgt := 136) (off := 135) hx hb dX4_answer_1 (by rw [c11]; decide) (by rw [c11]; decide) (by rw [c11]; rfl) (by decide) ?_
    refine lv_aload_n hx hb dX4_answer_136 rfl (lv_at hl 0 rfl) ?_
    refine va_get (D := dD) (ci := 4) (v := .ref (q 4)) (C := RX4) (T := TX4) (N := 18) hx hb hts iX4 hown hK.1 hP 0 rfl rfl 3 (by decide) f21 (fun _ h9 => h9) rfl dX4_answer_137 ?_
    refine va_getN (D := dD) (ci := 2) (v := .int (gI 2)) (C := RX2) (T := TX2) (N := 4) hx hb hts iX2 hown hK.1 hP 2 rfl rfl 2 (by decide) f113 (fun _ h9 => h9) rfl dX4_answer_140 ?_
    obtain rfl := Option.some.inj hsp
    exact hret _ _ ls 143 dX4_answer_143 rfl hP hD hS
  have hsp := z_f c11 hsp
  by_cases c12 : p1 = 8
  · have hsp := z_t c12 hsp
    refine lv_tableIn (tgt := 144) (off := 143) hx hb dX4_answer_1 (by rw [c12]; decide) (by rw [c12]; decide) (by rw [c12]; rfl) (by decide) ?_
    refine lv_aload_n hx hb dX4_answer_144 rfl (lv_at hl 0 rfl) ?_
    refine va_get (D := dD) (ci := 4) (v := .ref (q 4)) (C := RX4) (T := TX4) (N := 18) hx hb hts iX4 hown hK.1 hP 0 rfl rfl 3 (by decide) f21 (fun _ h9 => h9) rfl dX4_answer_145 ?_
    refine va_getN (D := dD) (ci := 2) (v := .int (gI 3)) (C := RX2) (T := TX2) (N := 4) hx hb hts iX2 hown hK.1 hP 2 rfl rfl 3 (by decide) f116 (fun _ h9 => h9) rfl dX4_answer_148 ?_
    obtain rfl := Option.some.inj hsp
    exact hret _ _ ls 151 dX4_answer_151 rfl hP hD hS
  have hsp := z_f c12 hsp
  by_cases c13 : p1 = 9
  · have hsp := z_t c13 hsp
    refine lv_tableIn (tgt := 152) (off := 151) hx hb dX4_answer_1 (by rw [c13]; decide) (by rw [c13]; decide) (by rw [c13]; rfl) (by decide) ?_
    refine lv_aload_n hx hb dX4_answer_152 rfl (lv_at hl 0 rfl) ?_
    refine va_get (D := dD) (ci := 4) (v := .int (gM 10)) (C := RX4) (T := TX4) (N := 18) hx hb hts iX4 hown hK.1 hP 0 rfl rfl 10 (by decide) f32 (fun _ h9 => h9) rfl dX4_answer_153 ?_
    obtain rfl := Option.some.inj hsp
    exact hret _ _ ls 156 dX4_answer_156 rfl hP hD hS
  have hsp := z_f c13 hsp
  by_cases c14 : p1 = 10
  · have hsp := z_t c14 hsp
    refine lv_tableIn (tgt := 157) (off := 156) hx hb dX4_answer_1 (by rw [c14]; decide) (by rw [c14]; decide) (by rw [c14]; rfl) (by decide) ?_
    refine lv_aload_n hx hb dX4_answer_157 rfl (lv_at hl 0 rfl) ?_
    refine va_get (D := dD) (ci := 4) (v := .int (gM 13)) (C := RX4) (T := TX4) (N := 18) hx hb hts iX4 hown hK.1 hP 0 rfl rfl 13 (by decide) f122 (fun _ h9 => h9) rfl dX4_answer_158 ?_
    obtain rfl := Option.some.inj hsp
    exact hret _ _ ls 161 dX4_answer_161 rfl hP hD hS
  have hsp := z_f c14 hsp
  by_cases c15 : p1 = 11
  · have hsp := z_t c15 hsp
    refine lv_tableIn (tgt := 162) (off := 161) hx hb dX4_answer_1 (by rw [c15]; decide) (by rw [c15]; decide) (by rw [c15]; rfl) (by decide) ?_
    refine lv_aload_n hx hb dX4_answer_162 rfl (lv_at hl 0 rfl) ?_
    refine va_get (D := dD) (ci := 4) (v := .int (gM 14)) (C := RX4) (T := TX4) (N := 18) hx hb hts iX4 hown hK.1 hP 0 rfl rfl 14 (by decide) f110 (fun _ h9 => h9) rfl dX4_answer_163 ?_
    obtain rfl := Option.some.inj hsp
    exact hret _ _ ls 166 dX4_answer_166 rfl hP hD hS
  have hsp := z_f c15 hsp
  by_cases c16 : p1 = 12
  · have hsp := z_t c16 hsp
    refine lv_tableIn (tgt := 167) (off := 166) hx hb dX4_answer_1 (by rw [c16]; decide) (by rw [c16]; decide) (by rw [c16]; rfl) (by decide) ?_
    refine lv_aload_n hx hb dX4_answer_167 rfl (lv_at hl 0 rfl) ?_
    refine va_get (D := dD) (ci := 4) (v := .int (gM 15)) (C := RX4) (T := TX4) (N := 18) hx hb hts iX4 hown hK.1 hP 0 rfl rfl 15 (by decide) f182 (fun _ h9 => h9) rfl dX4_answer_168 ?_
    obtain rfl := Option.some.inj hsp
    exact hret _ _ ls 171 dX4_answer_171 rfl hP hD hS
  have hsp := z_f c16 hsp
  by_cases c17 : p1 = 13
  · have hsp := z_t c17 hsp
    refine lv_tableIn (tgt := 172) (off := 171) hx hb dX4_answer_1 (by rw [c17]; decide) (by rw [c17]; decide) (by rw [c17]; rfl) (by decide) ?_
    refine lv_aload_n hx hb dX4_answer_172 rfl (lv_at hl 0 rfl) ?_
    refine va_get (D := dD) (ci := 4) (v := .int (gM 16)) (C := RX4) (T := TX4) (N := 18) hx hb hts iX4 hown hK.1 hP 0 rfl rfl 16 (by decide) f185 (fun _ h9 => h9) rfl dX4_answer_173 ?_
    obtain rfl := Option.some.inj hsp
    exact hret _ _ ls 176 dX4_answer_176 rfl hP hD hS
  have hsp := z_f c17 hsp
  by_cases c18 : p1 = 14
  · have hsp := z_t c18 hsp
    refine lv_tableIn (tgt := 177) (off := 176) hx hb dX4_answer_1 (by rw [c18]; decide) (by rw [c18]; decide) (by rw [c18]; rfl) (by decide) ?_
    refine lv_aload_n hx hb dX4_answer_177 rfl (lv_at hl 0 rfl) ?_
    refine va_get (D := dD) (ci := 4) (v := .int (gM 17)) (C := RX4) (T := TX4) (N := 18) hx hb hts iX4 hown hK.1 hP 0 rfl rfl 17 (by decide) f160 (fun _ h9 => h9) rfl dX4_answer_178 ?_
    obtain rfl := Option.some.inj hsp
    exact hret _ _ ls 181 dX4_answer_181 rfl hP hD hS
  have hsp := z_f c18 hsp
  by_cases c19 : p1 = 15
  · have hsp := z_t c19 hsp
    refine lv_tableIn (tgt := 182) (off := 181) hx hb dX4_answer_1 (by rw [c19]; decide) (by rw [c19]; decide) (by rw [c19]; rfl) (by decide) ?_
    refine lv_aload_n hx hb dX4_answer_182 rfl (lv_at hl 0 rfl) ?_
    refine va_get (D := dD) (ci := 4) (v := .int (gM 11)) (C := RX4) (T := TX4) (N := 18) hx hb hts iX4 hown hK.1 hP 0 rfl rfl 11 (by decide) f87 (fun _ h9 => h9) rfl dX4_answer_183 ?_
    obtain rfl := Option.some.inj hsp
    exact hret _ _ ls 186 dX4_answer_186 rfl hP hD hS
  have hsp := z_f c19 hsp
  by_cases c20 : p1 = 16
  · have hsp := z_t c20 hsp
    refine lv_tableIn (tgt := 187) (off := 186) hx hb dX4_answer_1 (by rw [c20]; decide) (by rw [c20]; decide) (by rw [c20]; rfl) (by decide) ?_
    refine lv_aload_n hx hb dX4_answer_187 rfl (lv_at hl 0 rfl) ?_
    refine va_get (D := dD) (ci := 4) (v := .int (gM 12)) (C := RX4) (T := TX4) (N := 18) hx hb hts iX4 hown hK.1 hP 0 rfl rfl 12 (by decide) f90 (fun _ h9 => h9) rfl dX4_answer_188 ?_
    obtain rfl := Option.some.inj hsp
    exact hret _ _ ls 191 dX4_answer_191 rfl hP hD hS
  have hsp := z_f c20 hsp
  refine lv_tableOut (tgt := 192) hx hb dX4_answer_1 (by have g0 := lv_neT (a := 0) c1 rfl; have g1 := lv_neT (a := 1) c2 rfl; have g2 := lv_neT (a := 2) c3 rfl; have g3 := lv_neT (a := 3) c4 rfl; have g4 := lv_neT (a := 4) c8 rfl; have g5 := lv_neT (a := 5) c9 rfl; have g6 := lv_neT (a := 6) c10 rfl; have g7 := lv_neT (a := 7) c11 rfl; have g8 := lv_neT (a := 8) c12 rfl; have g9 := lv_neT (a := 9) c13 rfl; have g10 := lv_neT (a := 10) c14 rfl; have g11 := lv_neT (a := 11) c15 rfl; have g12 := lv_neT (a := 12) c16 rfl; have g13 := lv_neT (a := 13) c17 rfl; have g14 := lv_neT (a := 14) c18 rfl; have g15 := lv_neT (a := 15) c19 rfl; have g16 := lv_neT (a := 16) c20 rfl; omega) (by decide) ?_
  refine lv_iconst (v := (-1)) hx hb dX4_answer_192 (by decide) ?_
  obtain rfl := Option.some.inj hsp
  exact hret _ _ ls 193 dX4_answer_193 rfl hP hD hS
end
