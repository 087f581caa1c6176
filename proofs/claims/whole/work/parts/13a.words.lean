/-! THE LAW'S ENTRY: what else stands -/
def lwA (s : State) : Nat → Prop := fun q => s.heap.size ≤ q
theorem lwA_out {s : State} : ∀ a : Nat, a < s.heap.size → ¬ lwA s a := fun a h => Nat.not_le.mpr h
def xTm (i : Nat) : Term := Term.string (xOw i) (xIx.getD i 0)
def gvL : List Cond := flatC (Cond.and given_1 narrow_1)
set_option maxRecDepth 100000 in
theorem gv_hex_l : (List.range 13).map (fun i => Cond.exactly (xTm i) "java/lang/String") = ([96, 106, 115, 127, 142, 156, 173, 188, 204, 220, 236, 254, 45] : List Nat).filterMap (fun i => gvL[i]?) := by decide +kernel
theorem gv_hex : ∀ i, i < 13 → Cond.exactly (xTm i) "java/lang/String" ∈ gvL := fun i hi => mem_r _ _ gv_hex_l _ (List.mem_map.mpr ⟨i, List.mem_range.mpr hi, rfl⟩)
set_option maxRecDepth 100000 in
theorem gv_hco_l : (List.range 13).map (fun i => Cond.eq (.field (xTm i) "java/lang/String" "coder" "B") (.int 0)) = ([97, 107, 116, 128, 143, 157, 174, 189, 205, 221, 237, 255, 46] : List Nat).filterMap (fun i => gvL[i]?) := by decide +kernel
theorem gv_hco : ∀ i, i < 13 → Cond.eq (.field (xTm i) "java/lang/String" "coder" "B") (.int 0) ∈ gvL := fun i hi => mem_r _ _ gv_hco_l _ (List.mem_map.mpr ⟨i, List.mem_range.mpr hi, rfl⟩)
set_option maxRecDepth 100000 in
theorem gv_har_l : (List.range 13).map (fun i => Cond.arrayOf (.field (xTm i) "java/lang/String" "value" "[B") .byte) = ([98, 108, 117, 129, 144, 158, 175, 190, 206, 222, 238, 256, 47] : List Nat).filterMap (fun i => gvL[i]?) := by decide +kernel
theorem gv_har : ∀ i, i < 13 → Cond.arrayOf (.field (xTm i) "java/lang/String" "value" "[B") .byte ∈ gvL := fun i hi => mem_r _ _ gv_har_l _ (List.mem_map.mpr ⟨i, List.mem_range.mpr hi, rfl⟩)
set_option maxRecDepth 100000 in
theorem gv_hle_l : (List.range 13).map (fun i => Cond.eq (.length (.field (xTm i) "java/lang/String" "value" "[B")) (.int (Int32.ofNat (xLen.getD i 0)))) = ([99, 109, 118, 130, 145, 159, 176, 191, 207, 223, 239, 257, 48] : List Nat).filterMap (fun i => gvL[i]?) := by decide +kernel
theorem gv_hle : ∀ i, i < 13 → Cond.eq (.length (.field (xTm i) "java/lang/String" "value" "[B")) (.int (Int32.ofNat (xLen.getD i 0))) ∈ gvL := fun i hi => mem_r _ _ gv_hle_l _ (List.mem_map.mpr ⟨i, List.mem_range.mpr hi, rfl⟩)
set_option maxRecDepth 100000 in
theorem gv_tab_l : (List.range 6).map (fun i => Cond.eq (.elem (.static RX1 "ABOVE" "[I") (.int (Int32.ofNat i))) (.int (tabF i))) = ([12, 13, 14, 15, 16, 17] : List Nat).filterMap (fun i => gvL[i]?) := by decide +kernel
theorem gv_tab : ∀ i, i < 6 → Cond.eq (.elem (.static RX1 "ABOVE" "[I") (.int (Int32.ofNat i))) (.int (tabF i)) ∈ gvL := fun i hi => mem_r _ _ gv_tab_l _ (List.mem_map.mpr ⟨i, List.mem_range.mpr hi, rfl⟩)
set_option maxRecDepth 100000 in
theorem tb_str_l : (List.range 13).map (fun i => Cond.stringRef (xOw i) (xIx.getD i 0) (xTx.getD i "")) = ([335, 342, 343, 344, 345, 346, 347, 348, 349, 350, 351, 352, 256] : List Nat).filterMap (fun i => lw_tbl[i]?) := by decide +kernel
theorem tb_str : ∀ i, i < 13 → Cond.stringRef (xOw i) (xIx.getD i 0) (xTx.getD i "") ∈ lw_tbl := fun i hi => mem_r _ _ tb_str_l _ (List.mem_map.mpr ⟨i, List.mem_range.mpr hi, rfl⟩)
def elB (z : Nat × Nat) : Cond := Cond.eq (.elem (.field (xTm z.1) "java/lang/String" "value" "[B") (.int (Int32.ofNat z.2))) (.int ((xByt.getD z.1 []).getD z.2 0))
def elPa : List (Nat × Nat) := [(0, 0), (0, 1), (0, 2), (0, 3), (0, 4), (1, 0), (1, 1), (1, 2), (2, 0), (2, 1), (2, 2), (2, 3), (2, 4), (3, 0), (3, 1), (3, 2), (3, 3), (3, 4), (3, 5), (3, 6), (4, 0), (4, 1), (4, 2), (4, 3), (4, 4), (5, 0), (5, 1), (5, 2), (5, 3), (5, 4), (5, 5), (5, 6), (6, 0), (6, 1), (6, 2), (6, 3), (7, 0), (7, 1), (7, 2), (7, 3), (8, 0), (8, 1), (8, 2), (9, 0), (9, 1), (10, 0), (10, 1), (10, 2), (11, 0), (11, 1), (11, 2)]
set_option maxRecDepth 100000 in
theorem gv_ela : elPa.map elB = ([100, 101, 102, 103, 104, 110, 111, 112, 119, 120, 121, 122, 123, 131, 132, 133, 134, 135, 136, 137, 146, 147, 148, 149, 150, 160, 161, 162, 163, 164, 165, 166, 177, 178, 179, 180, 192, 193, 194, 195, 208, 209, 210, 224, 225, 240, 241, 242, 258, 259, 260] : List Nat).filterMap (fun i => gvL[i]?) := by decide +kernel
def elPb : List (Nat × Nat) := [(12, 0), (12, 1), (12, 2), (12, 3), (12, 4), (12, 5), (12, 6), (12, 7), (12, 8), (12, 9), (12, 10), (12, 11), (12, 12), (12, 13), (12, 14), (12, 15), (12, 16), (12, 17), (12, 18), (12, 19), (12, 20), (12, 21), (12, 22), (12, 23)]
set_option maxRecDepth 100000 in
theorem gv_elb : elPb.map elB = ([49, 50, 51, 52, 53, 54, 55, 56, 57, 58, 59, 60, 61, 62, 63, 64, 65, 66, 67, 68, 69, 70, 71, 72] : List Nat).filterMap (fun i => gvL[i]?) := by decide +kernel
def elPc : List (Nat × Nat) := [(12, 24), (12, 25), (12, 26), (12, 27), (12, 28), (12, 29), (12, 30), (12, 31), (12, 32), (12, 33), (12, 34), (12, 35), (12, 36), (12, 37), (12, 38), (12, 39), (12, 40), (12, 41), (12, 42), (12, 43), (12, 44), (12, 45), (12, 46)]
set_option maxRecDepth 100000 in
theorem gv_elc : elPc.map elB = ([73, 74, 75, 76, 77, 78, 79, 80, 81, 82, 83, 84, 85, 86, 87, 88, 89, 90, 91, 92, 93, 94, 95] : List Nat).filterMap (fun i => gvL[i]?) := by decide +kernel
def inP (l : List (Nat × Nat)) (i j : Nat) : Bool := l.any fun z => Nat.beq z.1 i && Nat.beq z.2 j
theorem inP_mem {l : List (Nat × Nat)} {i j : Nat} (h : inP l i j = true) : (i, j) ∈ l := by
  obtain ⟨z, hz, hb⟩ := List.any_eq_true.mp h
  rw [Bool.and_eq_true] at hb
  have e1 := Nat.eq_of_beq_eq_true hb.1
  have e2 := Nat.eq_of_beq_eq_true hb.2
  obtain ⟨a, b⟩ := z
  dsimp only at e1 e2
  subst e1
  subst e2
  exact hz
theorem gv_elP : ∀ i, i < 13 → ∀ j, j < xLen.getD i 0 → inP elPa i j = true ∨ inP elPb i j = true ∨ inP elPc i j = true := by decide +kernel
theorem gv_hel : ∀ i, i < 13 → ∀ j, j < xLen.getD i 0 → Cond.eq (.elem (.field (xTm i) "java/lang/String" "value" "[B") (.int (Int32.ofNat j))) (.int ((xByt.getD i []).getD j 0)) ∈ gvL := by
  intro i hi j hj
  rcases gv_elP i hi j hj with h | h | h
  · exact mem_r _ _ gv_ela _ (List.mem_map.mpr ⟨(i, j), inP_mem h, rfl⟩)
  · exact mem_r _ _ gv_elb _ (List.mem_map.mpr ⟨(i, j), inP_mem h, rfl⟩)
  · exact mem_r _ _ gv_elc _ (List.mem_map.mpr ⟨(i, j), inP_mem h, rfl⟩)
def neB (z : Nat × Nat) : Cond := Cond.not (Cond.eq (xTm z.1) (xTm z.2))
def nePa : List (Nat × Nat) := [(0, 1), (0, 2), (0, 3), (0, 4), (0, 5), (0, 6), (0, 7), (0, 8), (0, 9), (0, 10), (0, 11), (12, 0), (1, 2), (1, 3), (1, 4), (1, 5), (1, 6), (1, 7), (1, 8), (1, 9), (1, 10), (1, 11), (12, 1), (2, 3), (2, 4), (2, 5), (2, 6), (2, 7), (2, 8), (2, 9), (2, 10), (2, 11), (12, 2), (3, 4), (3, 5), (3, 6), (3, 7), (3, 8), (3, 9)]
set_option maxRecDepth 100000 in
theorem gv_nea : nePa.map neB = ([114, 125, 139, 152, 168, 182, 197, 212, 227, 244, 262, 105, 126, 140, 153, 169, 183, 198, 213, 228, 245, 263, 113, 141, 154, 170, 184, 199, 214, 229, 246, 264, 124, 155, 171, 185, 200, 215, 230] : List Nat).filterMap (fun i => gvL[i]?) := by decide +kernel
def nePb : List (Nat × Nat) := [(3, 10), (3, 11), (12, 3), (4, 5), (4, 6), (4, 7), (4, 8), (4, 9), (4, 10), (4, 11), (12, 4), (5, 6), (5, 7), (5, 8), (5, 9), (5, 10), (5, 11), (12, 5), (6, 7), (6, 8), (6, 9), (6, 10), (6, 11), (12, 6), (7, 8), (7, 9), (7, 10), (7, 11), (12, 7), (8, 9), (8, 10), (8, 11), (12, 8), (9, 10), (9, 11), (12, 9), (10, 11), (12, 10), (12, 11)]
set_option maxRecDepth 100000 in
theorem gv_neb : nePb.map neB = ([247, 265, 138, 172, 186, 201, 216, 231, 248, 266, 151, 187, 202, 217, 232, 249, 267, 167, 203, 218, 233, 250, 268, 181, 219, 234, 251, 269, 196, 235, 252, 270, 211, 253, 271, 226, 272, 243, 261] : List Nat).filterMap (fun i => gvL[i]?) := by decide +kernel
theorem gv_neP : ∀ i, i < 13 → ∀ j, j < 13 → i ≠ j → (inP nePa i j = true ∨ inP nePb i j = true) ∨ (inP nePa j i = true ∨ inP nePb j i = true) := by decide +kernel
theorem gv_neI : ∀ z, (z ∈ nePa ∨ z ∈ nePb) → neB z ∈ gvL := fun z h => h.elim (fun h => mem_r _ _ gv_nea _ (List.mem_map.mpr ⟨z, h, rfl⟩)) (fun h => mem_r _ _ gv_neb _ (List.mem_map.mpr ⟨z, h, rfl⟩))
theorem gv_hne : ∀ i, i < 13 → ∀ j, j < 13 → i ≠ j → Cond.not (Cond.eq (xTm i) (xTm j)) ∈ gvL ∨ Cond.not (Cond.eq (xTm j) (xTm i)) ∈ gvL := fun i hi j hj h => (gv_neP i hi j hj h).elim (fun h => Or.inl (gv_neI (i, j) (h.imp inP_mem inP_mem))) (fun h => Or.inr (gv_neI (j, i) (h.imp inP_mem inP_mem)))
set_option maxRecDepth 100000 in
theorem gv_o : (Cond.arrayOf (.static RX1 "ABOVE" "[I") .int ∈ gvL ∧ Cond.eq (.length (.static RX1 "ABOVE" "[I")) (.int (Int32.ofNat 6)) ∈ gvL) := ⟨List.mem_of_getElem? (i := 10) (by decide +kernel), List.mem_of_getElem? (i := 11) (by decide +kernel)⟩
set_option maxRecDepth 100000 in
theorem gv_st : Cond.eq (.static RJ0 "COMPACT_STRINGS" "Z") (.int 1) ∈ gvL ∧ Cond.isRef (.static RJ3 "SIOOBE_FORMATTER" "Ljava/util/function/BiFunction;") ∈ gvL := ⟨List.mem_of_getElem? (i := 4) (by decide +kernel), List.mem_of_getElem? (i := 5) (by decide +kernel)⟩
set_option maxRecDepth 100000 in
theorem tb_nwl : nestW = ([93, 94, 96, 98, 100, 130, 132, 134, 136, 154, 156, 174, 222, 224, 226] : List Nat).filterMap (fun i => lw_tbl[i]?) := by decide +kernel
theorem tb_nwt : ∀ w ∈ nestW, w.onTables = true := by decide +kernel
theorem tb_nw : ∀ w ∈ nestW, w ∈ lw_tbl ∧ w.onTables = true := fun w hw => ⟨mem_r _ _ tb_nwl w hw, tb_nwt w hw⟩
set_option maxRecDepth 100000 in
theorem tb_nml : nestM.map (fun q => Cond.methodLinkNest q.1 q.2.1 q.2.2 RX8) = ([87, 122, 168, 182, 205, 217, 236] : List Nat).filterMap (fun i => lw_tbl[i]?) := by decide +kernel
theorem tb_nm : ∀ q ∈ nestM, Cond.methodLinkNest q.1 q.2.1 q.2.2 RX8 ∈ lw_tbl := fun q hq => mem_r _ _ tb_nml _ (List.mem_map.mpr ⟨q, hq, rfl⟩)
set_option maxRecDepth 100000 in
theorem tb_st : (Cond.laysStatic RX1 "ABOVE" "[I" ∈ lw_tbl ∧ Cond.initialized RX1 ∈ lw_tbl) ∧ (Cond.laysStatic RJ0 "COMPACT_STRINGS" "Z" ∈ lw_tbl ∧ Cond.initialized RJ0 ∈ lw_tbl) ∧ (Cond.laysStatic RJ3 "SIOOBE_FORMATTER" "Ljava/util/function/BiFunction;" ∈ lw_tbl ∧ Cond.initialized RJ3 ∈ lw_tbl) := ⟨⟨List.mem_of_getElem? (i := 790) (by decide +kernel), List.mem_of_getElem? (i := 64) (by decide +kernel)⟩, ⟨List.mem_of_getElem? (i := 266) (by decide +kernel), List.mem_of_getElem? (i := 71) (by decide +kernel)⟩, List.mem_of_getElem? (i := 282) (by decide +kernel), List.mem_of_getElem? (i := 73) (by decide +kernel)⟩
set_option maxRecDepth 100000 in
theorem tb_ao : (Cond.arrayOver (.object RX1) ∈ lw_tbl ∧ Cond.arrayOver (.object RX6) ∈ lw_tbl ∧ Cond.arrayOver (.object RX3) ∈ lw_tbl) ∧ Cond.arrayClass .int ∈ lw_tbl ∧ Cond.arrayClass .long ∈ lw_tbl ∧ Cond.arrayClass .boolean ∈ lw_tbl := ⟨⟨List.mem_of_getElem? (i := 114) (by decide +kernel), List.mem_of_getElem? (i := 165) (by decide +kernel), List.mem_of_getElem? (i := 203) (by decide +kernel)⟩, List.mem_of_getElem? (i := 112) (by decide +kernel), List.mem_of_getElem? (i := 234) (by decide +kernel), List.mem_of_getElem? (i := 948) (by decide +kernel)⟩
set_option maxRecDepth 100000 in
theorem tb_in : (Cond.instantiable RX0 5 ∈ lw_tbl ∧ Cond.instantiable RX1 3 ∈ lw_tbl ∧ Cond.instantiable RX2 5 ∈ lw_tbl ∧ Cond.instantiable RX3 3 ∈ lw_tbl ∧ Cond.instantiable RX4 7 ∈ lw_tbl) ∧ Cond.instantiable RX5 2 ∈ lw_tbl ∧ Cond.instantiable RX6 5 ∈ lw_tbl ∧ Cond.instantiable RX8 20 ∈ lw_tbl ∧ Cond.instantiable RX9 45 ∈ lw_tbl := ⟨⟨List.mem_of_getElem? (i := 86) (by decide +kernel), List.mem_of_getElem? (i := 115) (by decide +kernel), List.mem_of_getElem? (i := 181) (by decide +kernel), List.mem_of_getElem? (i := 216) (by decide +kernel), List.mem_of_getElem? (i := 121) (by decide +kernel)⟩, List.mem_of_getElem? (i := 167) (by decide +kernel), List.mem_of_getElem? (i := 235) (by decide +kernel), List.mem_of_getElem? (i := 78) (by decide +kernel), List.mem_of_getElem? (i := 793) (by decide +kernel)⟩
