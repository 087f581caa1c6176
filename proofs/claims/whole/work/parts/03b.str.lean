/-! THE TEXTS: String.length, String.charAt over the claim's literals -/
section VS
variable {EX : (Nat → Prop) → State → Heap → Prop} {p : Program} {l : Launch} {e : Env} {R : Room} {s : State} {m : MethodId} {args : Array Value} {below : List Frame} {meth : Method} {c : Code} {nL : Nat} {A : Nat → Prop} {G : WD} {Y : YD} {cells slots : Nat} {Q : State → Prop} {σ τ : HS} {pc : Nat} {L L' : List (Nat × Value)} {st : List Value} {cc : ByteArray} {ret : Option FieldType} {own : String} {Ts : List Cond} {adK adV : Nat → Nat} {tb : Nat}
theorem v_gets {C n d : String} {index : Nat} {v : Value} (hC : Cx EX G.1 G.2.1 Y cc nL ret own Ts p s m args meth c A) (hZ : va_Z C n d v A s s.heap) (hlink : Cond.fieldLink own index C n d ∈ Ts) (hdg : decode cc pc = .ok (.getstatic index, 3)) (k : V p l e R s m args below meth c nL A G Y cells slots Q σ (pc + 3) L (v :: st)) : V p l e R s m args below meth c nL A G Y cells slots Q σ pc L st := fun H locs ls hW hS hl => va_gets hC.1.1 hC.1.2.1 hZ hS hC.1.2.2.2.1 (hC.1.2.2.2.2 _ hlink) (fun _ h => h) hdg (k H locs ls hW hS hl)
theorem v_getOF {o n d : String} {index q : Nat} {v : Value} (hC : Cx EX G.1 G.2.1 Y cc nL ret own Ts p s m args meth c A) (hE : va_OF o n d v q A s s.heap) (hlink : Cond.fieldLink own index o n d ∈ Ts) (hdg : decode cc pc = .ok (.getfield index, 3)) (k : V p l e R s m args below meth c nL A G Y cells slots Q σ (pc + 3) L (v :: st)) : V p l e R s m args below meth c nL A G Y cells slots Q σ pc L (.ref q :: st) := fun H locs ls hW hS hl => vk_getf hC.1.1 hC.1.2.1 hE hS hC.1.2.2.2.1 (hC.1.2.2.2.2 _ hlink) (fun _ h => h) hdg (k H locs ls hW hS hl)
theorem v_tLen {ty : FieldType} {t N : Nat} {f : Nat → Value} (hC : Cx EX G.1 G.2.1 Y cc nL ret own Ts p s m args meth c A) (hT : va_T ty t N f A s s.heap) (hdg : decode cc pc = .ok (.arraylength, 1)) (k : V p l e R s m args below meth c nL A G Y cells slots Q σ (pc + 1) L (.int (nI N) :: st)) : V p l e R s m args below meth c nL A G Y cells slots Q σ pc L (.ref t :: st) := fun H locs ls hW hS hl => va_tlen hC.1.1 hC.1.2.1 hT hS rfl hdg (k H locs ls hW hS hl)
theorem v_tByte {t N : Nat} {f : Nat → Int32} {i : Int32} (hC : Cx EX G.1 G.2.1 Y cc nL ret own Ts p s m args meth c A) (hT : va_T .byte t N (fun j => .int (f j)) A s s.heap) (hin : inb i N = true) (hdg : decode cc pc = .ok (.baload, 1)) (k : V p l e R s m args below meth c nL A G Y cells slots Q σ (pc + 1) L (.int (f (ix i)) :: st)) : V p l e R s m args below meth c nL A G Y cells slots Q σ pc L (.int i :: .ref t :: st) := fun H locs ls hW hS hl => va_tb hC.1.1 hC.1.2.1 hT hS (inb_vp hin) rfl hdg (k H locs ls hW hS hl)
theorem v_i2c {x : Int32} (hC : Cx EX G.1 G.2.1 Y cc nL ret own Ts p s m args meth c A) (hdg : decode cc pc = .ok (.i2c, 1)) (k : V p l e R s m args below meth c nL A G Y cells slots Q σ (pc + 1) L (.int (x.toUInt32 % 65536).toInt32 :: st)) : V p l e R s m args below meth c nL A G Y cells slots Q σ pc L (.int x :: st) := fun H locs ls hW hS hl => lv_i2c hC.1.1 hC.1.2.1 hdg rfl (k H locs ls hW hS hl)
end VS
theorem str_all : ∀ w, w < 13 → (xLen.getD w 0 = (xByt.getD w []).length ∧ xLen.getD w 0 < 100 ∧ ∀ k, k < xLen.getD w 0 → ((((xByt.getD w []).getD k 0 &&& 255).toUInt32 % 65536).toInt32 = (xByt.getD w []).getD k 0 ∧ narrow .char (.int ((xByt.getD w []).getD k 0)) = .int ((xByt.getD w []).getD k 0))) := by decide +kernel
theorem inb_ix {i : Int32} {n : Nat} (h : inb i n = true) : ¬ i < 0 ∧ ix i < n := by
  simpa only [inb, ix, Bool.and_eq_true, decide_eq_true_eq] using h
theorem inb_lt {i : Int32} {n : Nat} (h : inb i n = true) (hn : n < 2 ^ 31) : i < nI n := by
  obtain ⟨h1, h2⟩ := inb_ix h
  obtain ⟨j, hj, rfl⟩ := nI_of h1
  rw [ix, nI_clamp hj] at h2
  exact nI_lt h2 hn
abbrev rmJ_c : Room := { frames := 0, cells := 0, slots := 0, locals := 0 }
abbrev rmJ_len : Room := { frames := 1, cells := 0, slots := 0, locals := 20 }
abbrev rmJ_ck : Room := { frames := 1, cells := 0, slots := 0, locals := 22 }
abbrev rmJ_l1 : Room := { frames := 2, cells := 0, slots := 0, locals := 43 }
abbrev rmJ_chr : Room := { frames := 3, cells := 0, slots := 0, locals := 64 }
theorem jm1 : Cond.fieldLink RJ0 38 RJ0 "COMPACT_STRINGS" "Z" ∈ wsJ0_coder_7d493 ∧ Cond.fieldLink RJ0 15 "java/lang/String" "coder" "B" ∈ wsJ0_coder_7d493 := by decide +kernel
theorem jm2 : Cond.fieldLink RJ0 38 RJ0 "COMPACT_STRINGS" "Z" ∈ wsJ0_isLatin1_aae02 ∧ Cond.fieldLink RJ0 15 "java/lang/String" "coder" "B" ∈ wsJ0_isLatin1_aae02 := by decide +kernel
theorem jm3 : Cond.fieldLink RJ0 9 "java/lang/String" "value" "[B" ∈ wsJ0_length_8abf5 ∧ Cond.fieldLink RJ0 9 "java/lang/String" "value" "[B" ∈ wsJ0_charAt_5068e := by decide +kernel
theorem jm4 : Cond.fieldLink RJ0 1053 RJ3 "SIOOBE_FORMATTER" "Ljava/util/function/BiFunction;" ∈ wsJ0_checkIndex_df160 := by decide +kernel
set_option maxHeartbeats 4000000 in
set_option maxRecDepth 100000 in
theorem kJ_coder {adK adV : Nat → Nat} {tb : Nat} (l : Launch) {G : WD} {w : Nat} {σ : HS} (hw : w < 13) : MI (xE adK adV tb) l yJ0_coder_7d493 wsJ0_coder_7d493 rmJ_c G xY [.ref (adK w)] σ 0 σ := by
  refine MI.of RJ0 (by decide) rfl rfl (Nat.le_of_ble_eq_true rfl) rfl rfl (fun p e s m below meth c hC => ?_)
  have hE := hC.2.2.2.2.2
  refine v_gets hC hE.2.2.2.1 jm1.1 dJ0_coder_7d493_0 ?_
  refine v_if_eq (tgt := 13) hC dJ0_coder_7d493_3 (by decide) (fun h => absurd h (by decide)) (fun _ => ?_)
  refine v_aload_n hC dJ0_coder_7d493_6 0 rfl ?_
  refine v_getOF hC (hE.2.2.1.1.1 w hw).2.1 jm1.2 dJ0_coder_7d493_7 ?_
  refine v_goto (tgt := 14) hC dJ0_coder_7d493_10 (by decide) ?_
  exact v_zret hC rfl rfl dJ0_coder_7d493_14 rfl
set_option maxHeartbeats 4000000 in
set_option maxRecDepth 100000 in
theorem kJ_isLatin1 {adK adV : Nat → Nat} {tb : Nat} (l : Launch) {G : WD} {w : Nat} {σ : HS} (hw : w < 13) : MI (xE adK adV tb) l yJ0_isLatin1_aae02 wsJ0_isLatin1_aae02 rmJ_c G xY [.ref (adK w)] σ 1 σ := by
  refine MI.of RJ0 (by decide) rfl rfl (Nat.le_of_ble_eq_true rfl) rfl rfl (fun p e s m below meth c hC => ?_)
  have hE := hC.2.2.2.2.2
  refine v_gets hC hE.2.2.2.1 jm2.1 dJ0_isLatin1_aae02_0 ?_
  refine v_if_eq (tgt := 17) hC dJ0_isLatin1_aae02_3 (by decide) (fun h => absurd h (by decide)) (fun _ => ?_)
  refine v_aload_n hC dJ0_isLatin1_aae02_6 0 rfl ?_
  refine v_getOF hC (hE.2.2.1.1.1 w hw).2.1 jm2.2 dJ0_isLatin1_aae02_7 ?_
  refine v_if_ne (tgt := 17) hC dJ0_isLatin1_aae02_10 (by decide) (fun h => absurd rfl h) (fun _ => ?_)
  refine v_iconst (v := 1) hC dJ0_isLatin1_aae02_13 (by decide) ?_
  refine v_goto (tgt := 18) hC dJ0_isLatin1_aae02_14 (by decide) ?_
  exact v_zret hC rfl rfl dJ0_isLatin1_aae02_18 rfl
set_option maxHeartbeats 4000000 in
set_option maxRecDepth 100000 in
theorem kJ_length {adK adV : Nat → Nat} {tb : Nat} (l : Launch) {G : WD} {w : Nat} {σ : HS} (hw : w < 13) : MI (xE adK adV tb) l yJ0_length_8abf5 wsJ0_length_8abf5 rmJ_len G xY [.ref (adK w)] σ (sLn w) σ := by
  refine MI.of RJ0 (by decide) rfl rfl (Nat.le_of_ble_eq_true rfl) rfl rfl (fun p e s m below meth c hC => ?_)
  have hE := hC.2.2.2.2.2
  refine v_aload_n hC dJ0_length_8abf5_0 0 rfl ?_
  refine v_getOF hC (hE.2.2.1.1.1 w hw).2.2.1 jm3.1 dJ0_length_8abf5_1 ?_
  refine v_tLen hC (hE.2.2.1.1.1 w hw).2.2.2 dJ0_length_8abf5_4 ?_
  refine v_aload_n hC dJ0_length_8abf5_5 0 rfl ?_
  refine v_callSI_str hC xE_ok (n := 0) (As := []) (kJ_coder l hw) (cwV 0 hC.1.2.2.2.2 gJ0_length_8abf5_J0_coder_7d493 rfl rfl rfl (by decide +kernel) ⟨Nat.le_of_ble_eq_true rfl, Nat.le_of_ble_eq_true rfl⟩) hw rfl (Nat.le_of_ble_eq_true rfl) ⟨Nat.zero_le _, Nat.zero_le _⟩ dJ0_length_8abf5_6 rfl ?_
  refine v_ishr hC dJ0_length_8abf5_9 ?_
  have := (str_all w hw).2.1
  exact v_iret hC rfl dJ0_length_8abf5_10 (by rw [sc_shr0 (by omega)]; rfl)
set_option maxHeartbeats 4000000 in
set_option maxRecDepth 100000 in
theorem kJ3_check {adK adV : Nat → Nat} {tb : Nat} (l : Launch) {G : WD} {σ : HS} {i n : Int32} {o : Option Nat} (h0 : ¬ i < 0) (hn : i < n) : MI (xE adK adV tb) l yJ3_checkIndex_8e157 wsJ3_checkIndex_8e157 rmJ_c G xY [.int i, .int n, va_rf o] σ i σ := by
  have key : ∀ v : Value, v.category = 1 → (lg_sl [.int i, .int n, v]).length ≤ 3 → lv_args 0 [.int i, .int n, v] = [(0, .int i), (1, .int n), (2, v)] → MI (xE adK adV tb) l yJ3_checkIndex_8e157 wsJ3_checkIndex_8e157 rmJ_c G xY [.int i, .int n, v] σ i σ := by
    intro v hv hlen hL
    refine MI.of RJ3 (by decide) rfl rfl hlen rfl rfl (fun p e s m below meth c hC => ?_)
    rw [hL]
    refine v_iload_n hC dJ3_checkIndex_8e157_0 0 rfl ?_
    refine v_if_lt (tgt := 9) hC dJ3_checkIndex_8e157_1 (by decide) (fun h => absurd h h0) (fun _ => ?_)
    refine v_iload_n hC dJ3_checkIndex_8e157_4 0 rfl ?_
    refine v_iload_n hC dJ3_checkIndex_8e157_5 1 rfl ?_
    refine v_icmp_lt (tgt := 16) hC dJ3_checkIndex_8e157_6 (by decide) (fun _ => ?_) (fun h => absurd hn h)
    refine v_iload_n hC dJ3_checkIndex_8e157_16 0 rfl ?_
    exact v_iret hC rfl dJ3_checkIndex_8e157_17 rfl
  cases o with
  | none => exact key .null rfl (Nat.le_of_ble_eq_true rfl) rfl
  | some t => exact key (.ref t) rfl (Nat.le_of_ble_eq_true rfl) rfl
set_option maxHeartbeats 4000000 in
set_option maxRecDepth 100000 in
theorem kJ0_check {adK adV : Nat → Nat} {tb : Nat} (l : Launch) {G : WD} {σ : HS} {i n : Int32} (h0 : ¬ i < 0) (hn : i < n) : MV (xE adK adV tb) l yJ0_checkIndex_df160 wsJ0_checkIndex_df160 rmJ_ck G xY [.int i, .int n] σ σ := by
  refine MV.of RJ0 (by decide) rfl rfl (Nat.le_of_ble_eq_true rfl) rfl rfl (fun p e s m below meth c hC => ?_)
  have hE := hC.2.2.2.2.2
  refine v_iload_n hC dJ0_checkIndex_df160_0 0 rfl ?_
  refine v_iload_n hC dJ0_checkIndex_df160_1 1 rfl ?_
  have key : ∀ o : Option Nat, va_Z RJ3 "SIOOBE_FORMATTER" "Ljava/util/function/BiFunction;" (va_rf o) (wA G s.heap.size) s s.heap → V p l e rmJ_ck s m ([.int i, .int n] : List Value).toArray below meth c 2 (wA G s.heap.size) G xY 0 0 (MQ below (QV G xY (wA G s.heap.size) σ) ([.int i, .int n] : List Value).toArray s 0 0 (wA G s.heap.size)) σ (0 + 1 + 1) [(0, .int i), (1, .int n)] [.int n, .int i] := by
    intro o hZ
    refine v_gets hC hZ jm4 dJ0_checkIndex_df160_2 ?_
    refine v_callSI hC xE_ok (n := 3) (As := [.int i, .int n, va_rf o]) (kJ3_check l h0 hn) (va_cwS 3 hC.1.2.2.2.2 gJ0_checkIndex_df160_J3_checkIndex_8e157 rfl rfl rfl (by decide +kernel) ⟨Nat.le_of_ble_eq_true rfl, Nat.le_of_ble_eq_true rfl⟩) rfl (Nat.le_of_ble_eq_true rfl) ⟨Nat.zero_le _, Nat.zero_le _⟩ dJ0_checkIndex_df160_5 rfl ?_
    refine v_pop hC dJ0_checkIndex_df160_8 rfl ?_
    exact v_vret hC rfl dJ0_checkIndex_df160_9 rfl
  rcases hE.2.2.2.2.1 with h | ⟨t, h⟩
  · exact key none h
  · exact key (some t) h
set_option maxHeartbeats 4000000 in
set_option maxRecDepth 100000 in
theorem kJ1_charAt {adK adV : Nat → Nat} {tb : Nat} (l : Launch) {G : WD} {w : Nat} {σ : HS} {i : Int32} (hw : w < 13) (hi : sIn w i = true) : MI (xE adK adV tb) l yJ1_charAt_3b067 wsJ1_charAt_3b067 rmJ_l1 G xY [.ref (adV w), .int i] σ (sCh w (ix i)) σ := by
  refine MI.of RJ1 (by decide) rfl rfl (Nat.le_of_ble_eq_true rfl) rfl rfl (fun p e s m below meth c hC => ?_)
  have hE := hC.2.2.2.2.2
  have hs := str_all w hw
  have hb := inb_ix hi
  refine v_iload_n hC dJ1_charAt_3b067_0 1 rfl ?_
  refine v_aload_n hC dJ1_charAt_3b067_1 0 rfl ?_
  refine v_tLen hC (hE.2.2.1.1.1 w hw).2.2.2 dJ1_charAt_3b067_2 ?_
  refine v_callSV hC xE_ok (n := 2) (As := [.int i, .int (nI (xLen.getD w 0))]) (kJ0_check l hb.1 (inb_lt hi (by omega))) (va_cwS 2 hC.1.2.2.2.2 gJ1_charAt_3b067_J0_checkIndex_df160 rfl rfl rfl (by decide +kernel) ⟨Nat.le_of_ble_eq_true rfl, Nat.le_of_ble_eq_true rfl⟩) rfl (Nat.le_of_ble_eq_true rfl) ⟨Nat.zero_le _, Nat.zero_le _⟩ dJ1_charAt_3b067_3 rfl ?_
  refine v_aload_n hC dJ1_charAt_3b067_6 0 rfl ?_
  refine v_iload_n hC dJ1_charAt_3b067_7 1 rfl ?_
  refine v_tByte (f := fun j => (xByt.getD w []).getD j 0) hC (hE.2.2.1.1.1 w hw).2.2.2 hi dJ1_charAt_3b067_8 ?_
  refine v_sipush (v := 255) hC dJ1_charAt_3b067_9 (by decide) ?_
  refine v_iand hC dJ1_charAt_3b067_12 ?_
  refine v_i2c hC dJ1_charAt_3b067_13 ?_
  have e1 := (hs.2.2 (ix i) hb.2).1
  have e2 := (hs.2.2 (ix i) hb.2).2
  rw [e1]
  exact v_zret hC rfl e2 dJ1_charAt_3b067_14 rfl
set_option maxHeartbeats 4000000 in
set_option maxRecDepth 100000 in
theorem kJ_charAt {adK adV : Nat → Nat} {tb : Nat} (l : Launch) {G : WD} {w : Nat} {σ : HS} {i : Int32} (hw : w < 13) (hi : sIn w i = true) : MI (xE adK adV tb) l yJ0_charAt_5068e wsJ0_charAt_5068e rmJ_chr G xY [.ref (adK w), .int i] σ (sCh w (ix i)) σ := by
  refine MI.of RJ0 (by decide) rfl rfl (Nat.le_of_ble_eq_true rfl) rfl rfl (fun p e s m below meth c hC => ?_)
  have hE := hC.2.2.2.2.2
  have hs := str_all w hw
  have hb := inb_ix hi
  refine v_aload_n hC dJ0_charAt_5068e_0 0 rfl ?_
  refine v_callSI_str hC xE_ok (n := 0) (As := []) (kJ_isLatin1 l hw) (cwV 0 hC.1.2.2.2.2 gJ0_charAt_5068e_J0_isLatin1_aae02 rfl rfl rfl (by decide +kernel) ⟨Nat.le_of_ble_eq_true rfl, Nat.le_of_ble_eq_true rfl⟩) hw rfl (Nat.le_of_ble_eq_true rfl) ⟨Nat.zero_le _, Nat.zero_le _⟩ dJ0_charAt_5068e_1 rfl ?_
  refine v_if_eq (tgt := 16) hC dJ0_charAt_5068e_4 (by decide) (fun h => absurd h (by decide)) (fun _ => ?_)
  refine v_aload_n hC dJ0_charAt_5068e_7 0 rfl ?_
  refine v_getOF hC (hE.2.2.1.1.1 w hw).2.2.1 jm3.2 dJ0_charAt_5068e_8 ?_
  refine v_iload_n hC dJ0_charAt_5068e_11 1 rfl ?_
  refine v_callSI hC xE_ok (n := 2) (As := [.ref (adV w), .int i]) (kJ1_charAt l hw hi) (va_cwS 2 hC.1.2.2.2.2 gJ0_charAt_5068e_J1_charAt_3b067 rfl rfl rfl (by decide +kernel) ⟨Nat.le_of_ble_eq_true rfl, Nat.le_of_ble_eq_true rfl⟩) rfl (Nat.le_of_ble_eq_true rfl) ⟨Nat.zero_le _, Nat.zero_le _⟩ dJ0_charAt_5068e_12 rfl ?_
  exact v_zret hC rfl (hs.2.2 (ix i) hb.2).2 dJ0_charAt_5068e_15 rfl
