theorem fl19_X2_isWord : Cond.fieldLink RX2 19 RX2 (TX2 4).2.1 (TX2 4).2.2.1 ∈ wsX2_isWord := by decide +kernel
theorem hi_X2_isWord_X2 : ∀ w ∈ u_ws RX2 TX2 5, w ∈ wsX2_isWord := by decide +kernel
theorem fl40_X2_isWord : Cond.fieldLink RX2 40 RX2 (TX2 3).2.1 (TX2 3).2.2.1 ∈ wsX2_isWord := by decide +kernel
theorem fl9_X2_isWord : Cond.fieldLink RX2 9 RX2 (TX2 0).2.1 (TX2 0).2.2.1 ∈ wsX2_isWord := by decide +kernel
theorem fl9_X2_wordToken : Cond.fieldLink RX2 9 RX2 (TX2 0).2.1 (TX2 0).2.2.1 ∈ wsX2_wordToken := by decide +kernel
theorem hi_X2_wordToken_X2 : ∀ w ∈ u_ws RX2 TX2 5, w ∈ wsX2_wordToken := by decide +kernel
theorem fl19_X2_wordToken : Cond.fieldLink RX2 19 RX2 (TX2 4).2.1 (TX2 4).2.2.1 ∈ wsX2_wordToken := by decide +kernel
theorem fl9_X2_numberToken : Cond.fieldLink RX2 9 RX2 (TX2 0).2.1 (TX2 0).2.2.1 ∈ wsX2_numberToken := by decide +kernel
theorem hi_X2_numberToken_X2 : ∀ w ∈ u_ws RX2 TX2 5, w ∈ wsX2_numberToken := by decide +kernel
theorem fl19_X2_numberToken : Cond.fieldLink RX2 19 RX2 (TX2 4).2.1 (TX2 4).2.2.1 ∈ wsX2_numberToken := by decide +kernel
theorem fl40_X2_numberToken : Cond.fieldLink RX2 40 RX2 (TX2 3).2.1 (TX2 3).2.2.1 ∈ wsX2_numberToken := by decide +kernel
theorem fl19_X2_take : Cond.fieldLink RX2 19 RX2 (TX2 4).2.1 (TX2 4).2.2.1 ∈ wsX2_take := by decide +kernel
theorem hi_X2_take_X2 : ∀ w ∈ u_ws RX2 TX2 5, w ∈ wsX2_take := by decide +kernel
theorem fl40_X2_take : Cond.fieldLink RX2 40 RX2 (TX2 3).2.1 (TX2 3).2.2.1 ∈ wsX2_take := by decide +kernel
theorem fl9_X2_take : Cond.fieldLink RX2 9 RX2 (TX2 0).2.1 (TX2 0).2.2.1 ∈ wsX2_take := by decide +kernel
theorem fl37_X2_take : Cond.fieldLink RX2 37 RX2 (TX2 2).2.1 (TX2 2).2.2.1 ∈ wsX2_take := by decide +kernel
theorem fl37_X2_readOne : Cond.fieldLink RX2 37 RX2 (TX2 2).2.1 (TX2 2).2.2.1 ∈ wsX2_readOne := by decide +kernel
theorem hi_X2_readOne_X2 : ∀ w ∈ u_ws RX2 TX2 5, w ∈ wsX2_readOne := by decide +kernel
theorem fl15_X2_readOne : Cond.fieldLink RX2 15 RX2 (TX2 1).2.1 (TX2 1).2.2.1 ∈ wsX2_readOne := by decide +kernel
theorem fl37_X2_readTerm : Cond.fieldLink RX2 37 RX2 (TX2 2).2.1 (TX2 2).2.2.1 ∈ wsX2_readTerm := by decide +kernel
theorem hi_X2_readTerm_X2 : ∀ w ∈ u_ws RX2 TX2 5, w ∈ wsX2_readTerm := by decide +kernel
theorem fl15_X2_readTerm : Cond.fieldLink RX2 15 RX2 (TX2 1).2.1 (TX2 1).2.2.1 ∈ wsX2_readTerm := by decide +kernel
theorem fl37_X2_readSum : Cond.fieldLink RX2 37 RX2 (TX2 2).2.1 (TX2 2).2.2.1 ∈ wsX2_readSum := by decide +kernel
theorem hi_X2_readSum_X2 : ∀ w ∈ u_ws RX2 TX2 5, w ∈ wsX2_readSum := by decide +kernel
theorem fl15_X2_readSum : Cond.fieldLink RX2 15 RX2 (TX2 1).2.1 (TX2 1).2.2.1 ∈ wsX2_readSum := by decide +kernel
theorem fl37_X2_readComparison : Cond.fieldLink RX2 37 RX2 (TX2 2).2.1 (TX2 2).2.2.1 ∈ wsX2_readComparison := by decide +kernel
theorem hi_X2_readComparison_X2 : ∀ w ∈ u_ws RX2 TX2 5, w ∈ wsX2_readComparison := by decide +kernel
theorem fl15_X2_readComparison : Cond.fieldLink RX2 15 RX2 (TX2 1).2.1 (TX2 1).2.2.1 ∈ wsX2_readComparison := by decide +kernel
theorem fl37_X2_readNot : Cond.fieldLink RX2 37 RX2 (TX2 2).2.1 (TX2 2).2.2.1 ∈ wsX2_readNot := by decide +kernel
theorem hi_X2_readNot_X2 : ∀ w ∈ u_ws RX2 TX2 5, w ∈ wsX2_readNot := by decide +kernel
theorem fl15_X2_readNot : Cond.fieldLink RX2 15 RX2 (TX2 1).2.1 (TX2 1).2.2.1 ∈ wsX2_readNot := by decide +kernel
theorem fl37_X2_readAnd : Cond.fieldLink RX2 37 RX2 (TX2 2).2.1 (TX2 2).2.2.1 ∈ wsX2_readAnd := by decide +kernel
theorem hi_X2_readAnd_X2 : ∀ w ∈ u_ws RX2 TX2 5, w ∈ wsX2_readAnd := by decide +kernel
theorem fl15_X2_readAnd : Cond.fieldLink RX2 15 RX2 (TX2 1).2.1 (TX2 1).2.2.1 ∈ wsX2_readAnd := by decide +kernel
theorem fl37_X2_readFormula : Cond.fieldLink RX2 37 RX2 (TX2 2).2.1 (TX2 2).2.2.1 ∈ wsX2_readFormula := by decide +kernel
theorem hi_X2_readFormula_X2 : ∀ w ∈ u_ws RX2 TX2 5, w ∈ wsX2_readFormula := by decide +kernel
theorem fl15_X2_readFormula : Cond.fieldLink RX2 15 RX2 (TX2 1).2.1 (TX2 1).2.2.1 ∈ wsX2_readFormula := by decide +kernel
theorem fl37_X2_readPart : Cond.fieldLink RX2 37 RX2 (TX2 2).2.1 (TX2 2).2.2.1 ∈ wsX2_readPart := by decide +kernel
theorem hi_X2_readPart_X2 : ∀ w ∈ u_ws RX2 TX2 5, w ∈ wsX2_readPart := by decide +kernel
theorem fl15_X2_readPart : Cond.fieldLink RX2 15 RX2 (TX2 1).2.1 (TX2 1).2.2.1 ∈ wsX2_readPart := by decide +kernel
theorem fl9_X2_readText : Cond.fieldLink RX2 9 RX2 (TX2 0).2.1 (TX2 0).2.2.1 ∈ wsX2_readText := by decide +kernel
theorem hi_X2_readText_X2 : ∀ w ∈ u_ws RX2 TX2 5, w ∈ wsX2_readText := by decide +kernel
theorem fl15_X2_readText : Cond.fieldLink RX2 15 RX2 (TX2 1).2.1 (TX2 1).2.2.1 ∈ wsX2_readText := by decide +kernel
theorem fl19_X2_readText : Cond.fieldLink RX2 19 RX2 (TX2 4).2.1 (TX2 4).2.2.1 ∈ wsX2_readText := by decide +kernel
theorem fl37_X2_readText : Cond.fieldLink RX2 37 RX2 (TX2 2).2.1 (TX2 2).2.2.1 ∈ wsX2_readText := by decide +kernel
theorem fl40_X2_readText : Cond.fieldLink RX2 40 RX2 (TX2 3).2.1 (TX2 3).2.2.1 ∈ wsX2_readText := by decide +kernel
theorem fl55_X8_text : Cond.fieldLink RX8 55 RX8 (TX8 12).2.1 (TX8 12).2.2.1 ∈ wsX8_text := by decide +kernel
theorem hi_X8_text_X8 : ∀ w ∈ u_ws RX8 TX8 20, w ∈ wsX8_text := by decide +kernel
theorem fl68_X8_text : Cond.fieldLink RX8 68 RX8 (TX8 14).2.1 (TX8 14).2.2.1 ∈ wsX8_text := by decide +kernel
theorem fl61_X8_text : Cond.fieldLink RX8 61 RX8 (TX8 13).2.1 (TX8 13).2.2.1 ∈ wsX8_text := by decide +kernel
theorem fl51_X8_text : Cond.fieldLink RX8 51 RX8 (TX8 11).2.1 (TX8 11).2.2.1 ∈ wsX8_text := by decide +kernel
abbrev rmX2_isWord : Room := { frames := 8, cells := 0, slots := 0, locals := 400 }
def c_X2_isWord_20 : Nat → Nat → Int32 → HS → Option (Int32 × HS)
  | 0, _, _, _ => none
  | n + 1, w1, x2, σ => (if (sLn w1) ≤ x2 then (some (1, σ)) else (if sIn w1 x2 = true then (mr (gR σ 14 0) (fun j5 => (bi2 (c_X5_at j5 ((gI σ 14 3) + x2) σ) (fun r9 s8 => (if (sCh w1 (ix x2)) = r9 then (c_X2_isWord_20 n w1 (x2 + 1) s8) else (some (0, s8))))))) else none))
set_option maxHeartbeats 4000000 in
set_option maxRecDepth 100000 in
theorem w_X2_isWord_20 {adK adV : Nat → Nat} {tb : Nat} {p : Program} {l : Launch} {e : Env} {s : State} {m : MethodId} {args : Array Value} {below : List Frame} {meth : Method} {c : Code} {A : Nat → Prop} {G : WD}  {r0 : Int32} {τ : HS} {w1 : Nat}  (hG : GX G xY) (hO0 : Ob G xY 14 2) (hw1 : w1 < 13) (hC : Cx (xE adK adV tb) G.1 G.2.1 xY cX2_isWord 3 (some .boolean) RX2 wsX2_isWord p s m args meth c A)  : ∀ (n : Nat) (x2 : Int32) (σ : HS), c_X2_isWord_20 n w1 x2 σ = some (r0, τ) → V p l e rmX2_isWord s m args below meth c 3 A G xY 0 0 (MQ below (QI G xY A r0 τ) args s 0 0 A) σ 20 [(0, .ref (G.2.2.1 14)), (1, .ref (adK w1)), (2, .int x2)] [] := by
  intro n
  induction n with
  | zero => intro x2 σ h; exact nof h
  | succ n ih =>
    intro x2 σ h
    rw [c_X2_isWord_20] at h
    refine v_iload_n hC dX2_isWord_20 2 rfl ?_
    refine v_aload_n hC dX2_isWord_21 1 rfl ?_
    refine v_callSI_str hC xE_ok (n := 0) (As := []) (kJ_length l hw1) (cwV 0 hC.1.2.2.2.2 gX2_isWord_J0_length_8abf5 rfl rfl rfl (by decide +kernel) ⟨(Nat.le_of_ble_eq_true rfl), (Nat.le_of_ble_eq_true rfl)⟩) hw1 rfl (Nat.le_of_ble_eq_true rfl) ⟨Nat.zero_le _, Nat.zero_le _⟩ dX2_isWord_22 rfl ?_
    refine v_icmp_ge (tgt := 57) hC dX2_isWord_25 (by decide) (fun c_2 => ?_) (fun c_2 => ?_)
    · replace h := ift c_2 h
      refine v_iconst (v := 1) hC dX2_isWord_57 (by decide) ?_
      exact v_zret hC rfl rfl dX2_isWord_58 h
    · replace h := ifn c_2 h
      refine v_aload_n hC dX2_isWord_28 1 rfl ?_
      refine v_iload_n hC dX2_isWord_29 2 rfl ?_
      obtain ⟨g_3, h⟩ := gd h
      refine v_callSI_str hC xE_ok (n := 1) (As := [.int x2]) (kJ_charAt l hw1 g_3) (cwV 1 hC.1.2.2.2.2 gX2_isWord_J0_charAt_5068e rfl rfl rfl (by decide +kernel) ⟨(Nat.le_of_ble_eq_true rfl), (Nat.le_of_ble_eq_true rfl)⟩) hw1 rfl (Nat.le_of_ble_eq_true rfl) ⟨Nat.zero_le _, Nat.zero_le _⟩ dX2_isWord_30 rfl ?_
      refine v_aload_n hC dX2_isWord_33 0 rfl ?_
      refine v_wt (fun hw_4 => ?_)
      refine v_get (C := RX2) (T := TX2) (N := 5) (ci := 2) (k := 0) (v := rv G.2.2.1 (gR σ 14 0)) hC hO0 hi_X2_isWord_X2 rfl (by decide) (by decide) rfl rfl fl9_X2_isWord dX2_isWord_34 rfl ?_
      refine v_aload_n hC dX2_isWord_37 0 rfl ?_
      refine v_get (C := RX2) (T := TX2) (N := 5) (ci := 2) (k := 3) (v := .int (gI σ 14 3)) hC hO0 hi_X2_isWord_X2 rfl (by decide) (by decide) rfl rfl fl40_X2_isWord dX2_isWord_38 rfl ?_
      refine v_iload_n hC dX2_isWord_41 2 rfl ?_
      refine v_iadd hC dX2_isWord_42 ?_
      obtain ⟨j5, hj6, h⟩ := mrd h
      rw [hj6]
      rw [rv_s]
      obtain ⟨r9, s8, hc_7, h⟩ := bd2 h
      refine v_callVI hC xE_ok (n := 1) (As := [.int ((gI σ 14 3) + x2)]) (k_X5_at l hG ((show Ob G xY j5 5 from (fun j hj => wt_ob hw_4 hO0 hj) j5 hj6)) hc_7) (cwV 1 hC.1.2.2.2.2 gX2_isWord_X5_at rfl rfl rfl (by decide +kernel) ⟨(Nat.le_of_ble_eq_true rfl), (Nat.le_of_ble_eq_true rfl)⟩) (show Ob G xY j5 5 from (fun j hj => wt_ob hw_4 hO0 hj) j5 hj6) (by decide) rfl rfl rfl (Nat.le_of_ble_eq_true rfl) ⟨Nat.zero_le _, Nat.zero_le _⟩ dX2_isWord_43 rfl ?_
      refine v_icmp_eq (tgt := 51) hC dX2_isWord_46 (by decide) (fun c_10 => ?_) (fun c_10 => ?_)
      · replace h := ift c_10 h
        refine v_iinc (v := (x2 + 1)) (L' := [(0, .ref (G.2.2.1 14)), (1, .ref (adK w1)), (2, .int (x2 + 1))]) hC dX2_isWord_51 2 rfl rfl (by decide) [1, 2, 0] rfl ?_
        refine v_goto (tgt := 20) hC dX2_isWord_54 (by decide) ?_
        exact ih _ _ h
      · replace h := ifn c_10 h
        refine v_iconst (v := 0) hC dX2_isWord_49 (by decide) ?_
        exact v_zret hC rfl rfl dX2_isWord_50 h
def c_X2_isWord (w1 : Nat) (σ : HS) : Option (Int32 × HS) := (if (sLn w1) = ((gI σ 14 4) - (gI σ 14 3)) then (c_X2_isWord_20 FU w1 0 σ) else (some (0, σ)))
set_option maxHeartbeats 4000000 in
set_option maxRecDepth 100000 in
theorem w_X2_isWord {adK adV : Nat → Nat} {tb : Nat} {p : Program} {l : Launch} {e : Env} {s : State} {m : MethodId} {args : Array Value} {below : List Frame} {meth : Method} {c : Code} {A : Nat → Prop} {G : WD}  {r0 : Int32} {τ : HS} {w1 : Nat} {σ : HS}  (hG : GX G xY) (hO0 : Ob G xY 14 2) (hw1 : w1 < 13) (hC : Cx (xE adK adV tb) G.1 G.2.1 xY cX2_isWord 3 (some .boolean) RX2 wsX2_isWord p s m args meth c A) (h : c_X2_isWord w1 σ = some (r0, τ)) : V p l e rmX2_isWord s m args below meth c 3 A G xY 0 0 (MQ below (QI G xY A r0 τ) args s 0 0 A) σ 0 [(0, .ref (G.2.2.1 14)), (1, .ref (adK w1))] [] := by
  rw [c_X2_isWord] at h
  refine v_aload_n hC dX2_isWord_0 1 rfl ?_
  refine v_callSI_str hC xE_ok (n := 0) (As := []) (kJ_length l hw1) (cwV 0 hC.1.2.2.2.2 gX2_isWord_J0_length_8abf5 rfl rfl rfl (by decide +kernel) ⟨(Nat.le_of_ble_eq_true rfl), (Nat.le_of_ble_eq_true rfl)⟩) hw1 rfl (Nat.le_of_ble_eq_true rfl) ⟨Nat.zero_le _, Nat.zero_le _⟩ dX2_isWord_1 rfl ?_
  refine v_aload_n hC dX2_isWord_4 0 rfl ?_
  refine v_get (C := RX2) (T := TX2) (N := 5) (ci := 2) (k := 4) (v := .int (gI σ 14 4)) hC hO0 hi_X2_isWord_X2 rfl (by decide) (by decide) rfl rfl fl19_X2_isWord dX2_isWord_5 rfl ?_
  refine v_aload_n hC dX2_isWord_8 0 rfl ?_
  refine v_get (C := RX2) (T := TX2) (N := 5) (ci := 2) (k := 3) (v := .int (gI σ 14 3)) hC hO0 hi_X2_isWord_X2 rfl (by decide) (by decide) rfl rfl fl40_X2_isWord dX2_isWord_9 rfl ?_
  refine v_isub hC dX2_isWord_12 ?_
  refine v_icmp_eq (tgt := 18) hC dX2_isWord_13 (by decide) (fun c_1 => ?_) (fun c_1 => ?_)
  · replace h := ift c_1 h
    refine v_iconst (v := 0) hC dX2_isWord_18 (by decide) ?_
    refine v_istore_n (L' := [(0, .ref (G.2.2.1 14)), (1, .ref (adK w1)), (2, .int 0)]) hC dX2_isWord_19 (by decide) [1, 2, 0] rfl ?_
    exact w_X2_isWord_20 hG (hO0) (hw1) hC FU _ _ h
  · replace h := ifn c_1 h
    refine v_iconst (v := 0) hC dX2_isWord_16 (by decide) ?_
    exact v_zret hC rfl rfl dX2_isWord_17 h
theorem k_X2_isWord {adK adV : Nat → Nat} {tb : Nat} (l : Launch) {G : WD}   {r0 : Int32} {τ : HS} {w1 : Nat} {σ : HS}  (hG : GX G xY) (hO0 : Ob G xY 14 2) (hw1 : w1 < 13) (h : c_X2_isWord w1 σ = some (r0, τ)) : MI (xE adK adV tb) l yX2_isWord wsX2_isWord rmX2_isWord G xY [.ref (G.2.2.1 14), .ref (adK w1)] σ r0 τ :=
  MI.of RX2 (by decide) rfl rfl (Nat.le_of_ble_eq_true rfl) rfl rfl (fun p e s m below meth c hC => w_X2_isWord  hG hO0 hw1 hC h)
abbrev rmX2_wordToken : Room := { frames := 9, cells := 0, slots := 0, locals := 422 }
def c_X2_wordToken_42 (σ : HS) : Option (Int32 × HS) := (bi2 (c_X2_isWord 0 σ) (fun r16 s15 => (if r16 = 0 then (bi2 (c_X2_isWord 1 s15) (fun r20 s19 => (if r20 = 0 then (bi2 (c_X2_isWord 2 s19) (fun r24 s23 => (if r24 = 0 then (bi2 (c_X2_isWord 3 s23) (fun r28 s27 => (if r28 = 0 then (bi2 (c_X2_isWord 4 s27) (fun r32 s31 => (if r32 = 0 then (bi2 (c_X2_isWord 5 s31) (fun r36 s35 => (if r36 = 0 then (bi2 (c_X2_isWord 6 s35) (fun r40 s39 => (if r40 = 0 then (bi2 (c_X2_isWord 7 s39) (fun r44 s43 => (if r44 = 0 then (bi2 (c_X2_isWord 8 s43) (fun r48 s47 => (if r48 = 0 then (bi2 (c_X2_isWord 9 s47) (fun r52 s51 => (if r52 = 0 then (bi2 (c_X2_isWord 10 s51) (fun r56 s55 => (if r56 = 0 then (bi2 (c_X2_isWord 11 s55) (fun r60 s59 => (if r60 = 0 then (some (10022, s59)) else (some (10011, s59))))) else (some (10010, s55))))) else (some (10009, s51))))) else (some (10008, s47))))) else (some (10007, s43))))) else (some (10006, s39))))) else (some (10005, s35))))) else (some (10004, s31))))) else (some (10003, s27))))) else (some (10002, s23))))) else (some (10001, s19))))) else (some (10000, s15)))))
set_option maxHeartbeats 4000000 in
set_option maxRecDepth 100000 in
theorem w_X2_wordToken_42 {adK adV : Nat → Nat} {tb : Nat} {p : Program} {l : Launch} {e : Env} {s : State} {m : MethodId} {args : Array Value} {below : List Frame} {meth : Method} {c : Code} {A : Nat → Prop} {G : WD}  {r0 : Int32} {τ : HS}   {σ : HS}  (hG : GX G xY) (hO0 : Ob G xY 14 2) (hC : Cx (xE adK adV tb) G.1 G.2.1 xY cX2_wordToken 2 (some .int) RX2 wsX2_wordToken p s m args meth c A)  (h : c_X2_wordToken_42  σ = some (r0, τ)) : V p l e rmX2_wordToken s m args below meth c 2 A G xY 0 0 (MQ below (QI G xY A r0 τ) args s 0 0 A) σ 42 [(0, .ref (G.2.2.1 14))] [] := by
  rw [c_X2_wordToken_42] at h
  refine v_aload_n hC dX2_wordToken_42 0 rfl ?_
  refine v_ldcS hC (xE_str0 hC.2.2.2.2.2) dX2_wordToken_43 ?_
  obtain ⟨r16, s15, hc_14, h⟩ := bd2 h
  refine v_callVI hC xE_ok (n := 1) (As := [.ref (adK 0)]) (k_X2_isWord l hG (hO0) ((by decide)) hc_14) (cwV 1 hC.1.2.2.2.2 gX2_wordToken_X2_isWord rfl rfl rfl (by decide +kernel) ⟨(Nat.le_of_ble_eq_true rfl), (Nat.le_of_ble_eq_true rfl)⟩) hO0 (by decide) rfl rfl rfl (Nat.le_of_ble_eq_true rfl) ⟨Nat.zero_le _, Nat.zero_le _⟩ dX2_wordToken_45 rfl ?_
  refine v_if_eq (tgt := 55) hC dX2_wordToken_48 (by decide) (fun c_17 => ?_) (fun c_17 => ?_)
  · replace h := ift c_17 h
    refine v_aload_n hC dX2_wordToken_55 0 rfl ?_
    refine v_ldcS hC (xE_str1 hC.2.2.2.2.2) dX2_wordToken_56 ?_
    obtain ⟨r20, s19, hc_18, h⟩ := bd2 h
    refine v_callVI hC xE_ok (n := 1) (As := [.ref (adK 1)]) (k_X2_isWord l hG (hO0) ((by decide)) hc_18) (cwV 1 hC.1.2.2.2.2 gX2_wordToken_X2_isWord rfl rfl rfl (by decide +kernel) ⟨(Nat.le_of_ble_eq_true rfl), (Nat.le_of_ble_eq_true rfl)⟩) hO0 (by decide) rfl rfl rfl (Nat.le_of_ble_eq_true rfl) ⟨Nat.zero_le _, Nat.zero_le _⟩ dX2_wordToken_58 rfl ?_
    refine v_if_eq (tgt := 68) hC dX2_wordToken_61 (by decide) (fun c_21 => ?_) (fun c_21 => ?_)
    · replace h := ift c_21 h
      refine v_aload_n hC dX2_wordToken_68 0 rfl ?_
      refine v_ldcS hC (xE_str2 hC.2.2.2.2.2) dX2_wordToken_69 ?_
      obtain ⟨r24, s23, hc_22, h⟩ := bd2 h
      refine v_callVI hC xE_ok (n := 1) (As := [.ref (adK 2)]) (k_X2_isWord l hG (hO0) ((by decide)) hc_22) (cwV 1 hC.1.2.2.2.2 gX2_wordToken_X2_isWord rfl rfl rfl (by decide +kernel) ⟨(Nat.le_of_ble_eq_true rfl), (Nat.le_of_ble_eq_true rfl)⟩) hO0 (by decide) rfl rfl rfl (Nat.le_of_ble_eq_true rfl) ⟨Nat.zero_le _, Nat.zero_le _⟩ dX2_wordToken_71 rfl ?_
      refine v_if_eq (tgt := 81) hC dX2_wordToken_74 (by decide) (fun c_25 => ?_) (fun c_25 => ?_)
      · replace h := ift c_25 h
        refine v_aload_n hC dX2_wordToken_81 0 rfl ?_
        refine v_ldcS hC (xE_str3 hC.2.2.2.2.2) dX2_wordToken_82 ?_
        obtain ⟨r28, s27, hc_26, h⟩ := bd2 h
        refine v_callVI hC xE_ok (n := 1) (As := [.ref (adK 3)]) (k_X2_isWord l hG (hO0) ((by decide)) hc_26) (cwV 1 hC.1.2.2.2.2 gX2_wordToken_X2_isWord rfl rfl rfl (by decide +kernel) ⟨(Nat.le_of_ble_eq_true rfl), (Nat.le_of_ble_eq_true rfl)⟩) hO0 (by decide) rfl rfl rfl (Nat.le_of_ble_eq_true rfl) ⟨Nat.zero_le _, Nat.zero_le _⟩ dX2_wordToken_84 rfl ?_
        refine v_if_eq (tgt := 94) hC dX2_wordToken_87 (by decide) (fun c_29 => ?_) (fun c_29 => ?_)
        · replace h := ift c_29 h
          refine v_aload_n hC dX2_wordToken_94 0 rfl ?_
          refine v_ldcS hC (xE_str4 hC.2.2.2.2.2) dX2_wordToken_95 ?_
          obtain ⟨r32, s31, hc_30, h⟩ := bd2 h
          refine v_callVI hC xE_ok (n := 1) (As := [.ref (adK 4)]) (k_X2_isWord l hG (hO0) ((by decide)) hc_30) (cwV 1 hC.1.2.2.2.2 gX2_wordToken_X2_isWord rfl rfl rfl (by decide +kernel) ⟨(Nat.le_of_ble_eq_true rfl), (Nat.le_of_ble_eq_true rfl)⟩) hO0 (by decide) rfl rfl rfl (Nat.le_of_ble_eq_true rfl) ⟨Nat.zero_le _, Nat.zero_le _⟩ dX2_wordToken_97 rfl ?_
          refine v_if_eq (tgt := 107) hC dX2_wordToken_100 (by decide) (fun c_33 => ?_) (fun c_33 => ?_)
          · replace h := ift c_33 h
            refine v_aload_n hC dX2_wordToken_107 0 rfl ?_
            refine v_ldcS hC (xE_str5 hC.2.2.2.2.2) dX2_wordToken_108 ?_
            obtain ⟨r36, s35, hc_34, h⟩ := bd2 h
            refine v_callVI hC xE_ok (n := 1) (As := [.ref (adK 5)]) (k_X2_isWord l hG (hO0) ((by decide)) hc_34) (cwV 1 hC.1.2.2.2.2 gX2_wordToken_X2_isWord rfl rfl rfl (by decide +kernel) ⟨(Nat.le_of_ble_eq_true rfl), (Nat.le_of_ble_eq_true rfl)⟩) hO0 (by decide) rfl rfl rfl (Nat.le_of_ble_eq_true rfl) ⟨Nat.zero_le _, Nat.zero_le _⟩ dX2_wordToken_110 rfl ?_
            refine v_if_eq (tgt := 120) hC dX2_wordToken_113 (by decide) (fun c_37 => ?_) (fun c_37 => ?_)
            · replace h := ift c_37 h
              refine v_aload_n hC dX2_wordToken_120 0 rfl ?_
              refine v_ldcS hC (xE_str6 hC.2.2.2.2.2) dX2_wordToken_121 ?_
              obtain ⟨r40, s39, hc_38, h⟩ := bd2 h
              refine v_callVI hC xE_ok (n := 1) (As := [.ref (adK 6)]) (k_X2_isWord l hG (hO0) ((by decide)) hc_38) (cwV 1 hC.1.2.2.2.2 gX2_wordToken_X2_isWord rfl rfl rfl (by decide +kernel) ⟨(Nat.le_of_ble_eq_true rfl), (Nat.le_of_ble_eq_true rfl)⟩) hO0 (by decide) rfl rfl rfl (Nat.le_of_ble_eq_true rfl) ⟨Nat.zero_le _, Nat.zero_le _⟩ dX2_wordToken_123 rfl ?_
              refine v_if_eq (tgt := 133) hC dX2_wordToken_126 (by decide) (fun c_41 => ?_) (fun c_41 => ?_)
              · replace h := ift c_41 h
                refine v_aload_n hC dX2_wordToken_133 0 rfl ?_
                refine v_ldcS hC (xE_str7 hC.2.2.2.2.2) dX2_wordToken_134 ?_
                obtain ⟨r44, s43, hc_42, h⟩ := bd2 h
                refine v_callVI hC xE_ok (n := 1) (As := [.ref (adK 7)]) (k_X2_isWord l hG (hO0) ((by decide)) hc_42) (cwV 1 hC.1.2.2.2.2 gX2_wordToken_X2_isWord rfl rfl rfl (by decide +kernel) ⟨(Nat.le_of_ble_eq_true rfl), (Nat.le_of_ble_eq_true rfl)⟩) hO0 (by decide) rfl rfl rfl (Nat.le_of_ble_eq_true rfl) ⟨Nat.zero_le _, Nat.zero_le _⟩ dX2_wordToken_136 rfl ?_
                refine v_if_eq (tgt := 146) hC dX2_wordToken_139 (by decide) (fun c_45 => ?_) (fun c_45 => ?_)
                · replace h := ift c_45 h
                  refine v_aload_n hC dX2_wordToken_146 0 rfl ?_
                  refine v_ldcS hC (xE_str8 hC.2.2.2.2.2) dX2_wordToken_147 ?_
                  obtain ⟨r48, s47, hc_46, h⟩ := bd2 h
                  refine v_callVI hC xE_ok (n := 1) (As := [.ref (adK 8)]) (k_X2_isWord l hG (hO0) ((by decide)) hc_46) (cwV 1 hC.1.2.2.2.2 gX2_wordToken_X2_isWord rfl rfl rfl (by decide +kernel) ⟨(Nat.le_of_ble_eq_true rfl), (Nat.le_of_ble_eq_true rfl)⟩) hO0 (by decide) rfl rfl rfl (Nat.le_of_ble_eq_true rfl) ⟨Nat.zero_le _, Nat.zero_le _⟩ dX2_wordToken_149 rfl ?_
                  refine v_if_eq (tgt := 159) hC dX2_wordToken_152 (by decide) (fun c_49 => ?_) (fun c_49 => ?_)
                  · replace h := ift c_49 h
                    refine v_aload_n hC dX2_wordToken_159 0 rfl ?_
                    refine v_ldcS hC (xE_str9 hC.2.2.2.2.2) dX2_wordToken_160 ?_
                    obtain ⟨r52, s51, hc_50, h⟩ := bd2 h
                    refine v_callVI hC xE_ok (n := 1) (As := [.ref (adK 9)]) (k_X2_isWord l hG (hO0) ((by decide)) hc_50) (cwV 1 hC.1.2.2.2.2 gX2_wordToken_X2_isWord rfl rfl rfl (by decide +kernel) ⟨(Nat.le_of_ble_eq_true rfl), (Nat.le_of_ble_eq_true rfl)⟩) hO0 (by decide) rfl rfl rfl (Nat.le_of_ble_eq_true rfl) ⟨Nat.zero_le _, Nat.zero_le _⟩ dX2_wordToken_162 rfl ?_
                    refine v_if_eq (tgt := 172) hC dX2_wordToken_165 (by decide) (fun c_53 => ?_) (fun c_53 => ?_)
                    · replace h := ift c_53 h
                      refine v_aload_n hC dX2_wordToken_172 0 rfl ?_
                      refine v_ldcS hC (xE_str10 hC.2.2.2.2.2) dX2_wordToken_173 ?_
                      obtain ⟨r56, s55, hc_54, h⟩ := bd2 h
                      refine v_callVI hC xE_ok (n := 1) (As := [.ref (adK 10)]) (k_X2_isWord l hG (hO0) ((by decide)) hc_54) (cwV 1 hC.1.2.2.2.2 gX2_wordToken_X2_isWord rfl rfl rfl (by decide +kernel) ⟨(Nat.le_of_ble_eq_true rfl), (Nat.le_of_ble_eq_true rfl)⟩) hO0 (by decide) rfl rfl rfl (Nat.le_of_ble_eq_true rfl) ⟨Nat.zero_le _, Nat.zero_le _⟩ dX2_wordToken_175 rfl ?_
                      refine v_if_eq (tgt := 185) hC dX2_wordToken_178 (by decide) (fun c_57 => ?_) (fun c_57 => ?_)
                      · replace h := ift c_57 h
                        refine v_aload_n hC dX2_wordToken_185 0 rfl ?_
                        refine v_ldcS hC (xE_str11 hC.2.2.2.2.2) dX2_wordToken_186 ?_
                        obtain ⟨r60, s59, hc_58, h⟩ := bd2 h
                        refine v_callVI hC xE_ok (n := 1) (As := [.ref (adK 11)]) (k_X2_isWord l hG (hO0) ((by decide)) hc_58) (cwV 1 hC.1.2.2.2.2 gX2_wordToken_X2_isWord rfl rfl rfl (by decide +kernel) ⟨(Nat.le_of_ble_eq_true rfl), (Nat.le_of_ble_eq_true rfl)⟩) hO0 (by decide) rfl rfl rfl (Nat.le_of_ble_eq_true rfl) ⟨Nat.zero_le _, Nat.zero_le _⟩ dX2_wordToken_188 rfl ?_
                        refine v_if_eq (tgt := 198) hC dX2_wordToken_191 (by decide) (fun c_61 => ?_) (fun c_61 => ?_)
                        · replace h := ift c_61 h
                          refine v_sipush (v := 10022) hC dX2_wordToken_198 (by decide) ?_
                          exact v_iret hC rfl dX2_wordToken_201 h
                        · replace h := ifn c_61 h
                          refine v_sipush (v := 10011) hC dX2_wordToken_194 (by decide) ?_
                          exact v_iret hC rfl dX2_wordToken_197 h
                      · replace h := ifn c_57 h
                        refine v_sipush (v := 10010) hC dX2_wordToken_181 (by decide) ?_
                        exact v_iret hC rfl dX2_wordToken_184 h
                    · replace h := ifn c_53 h
                      refine v_sipush (v := 10009) hC dX2_wordToken_168 (by decide) ?_
                      exact v_iret hC rfl dX2_wordToken_171 h
                  · replace h := ifn c_49 h
                    refine v_sipush (v := 10008) hC dX2_wordToken_155 (by decide) ?_
                    exact v_iret hC rfl dX2_wordToken_158 h
                · replace h := ifn c_45 h
                  refine v_sipush (v := 10007) hC dX2_wordToken_142 (by decide) ?_
                  exact v_iret hC rfl dX2_wordToken_145 h
              · replace h := ifn c_41 h
                refine v_sipush (v := 10006) hC dX2_wordToken_129 (by decide) ?_
                exact v_iret hC rfl dX2_wordToken_132 h
            · replace h := ifn c_37 h
              refine v_sipush (v := 10005) hC dX2_wordToken_116 (by decide) ?_
              exact v_iret hC rfl dX2_wordToken_119 h
          · replace h := ifn c_33 h
            refine v_sipush (v := 10004) hC dX2_wordToken_103 (by decide) ?_
            exact v_iret hC rfl dX2_wordToken_106 h
        · replace h := ifn c_29 h
          refine v_sipush (v := 10003) hC dX2_wordToken_90 (by decide) ?_
          exact v_iret hC rfl dX2_wordToken_93 h
      · replace h := ifn c_25 h
        refine v_sipush (v := 10002) hC dX2_wordToken_77 (by decide) ?_
        exact v_iret hC rfl dX2_wordToken_80 h
    · replace h := ifn c_21 h
      refine v_sipush (v := 10001) hC dX2_wordToken_64 (by decide) ?_
      exact v_iret hC rfl dX2_wordToken_67 h
  · replace h := ifn c_17 h
    refine v_sipush (v := 10000) hC dX2_wordToken_51 (by decide) ?_
    exact v_iret hC rfl dX2_wordToken_54 h
def c_X2_wordToken_2 : Nat → Int32 → HS → Option (Int32 × HS)
  | 0, _, _ => none
  | n + 1, x1, σ => (if 160 ≤ x1 then (c_X2_wordToken_42 σ) else (mr (gR σ 14 0) (fun j3 => (bi2 (c_X5_at j3 (gI σ 14 4) σ) (fun r7 s6 => (bi2 (c_X2_isLetter r7 s6) (fun r10 s9 => (if r10 = 0 then (c_X2_wordToken_42 s9) else (lt (sI s9 14 4 ((gI s9 14 4) + 1)) (fun s12 => (c_X2_wordToken_2 n (x1 + 1) s12)))))))))))
set_option maxHeartbeats 4000000 in
set_option maxRecDepth 100000 in
theorem w_X2_wordToken_2 {adK adV : Nat → Nat} {tb : Nat} {p : Program} {l : Launch} {e : Env} {s : State} {m : MethodId} {args : Array Value} {below : List Frame} {meth : Method} {c : Code} {A : Nat → Prop} {G : WD}  {r0 : Int32} {τ : HS}   (hG : GX G xY) (hO0 : Ob G xY 14 2) (hC : Cx (xE adK adV tb) G.1 G.2.1 xY cX2_wordToken 2 (some .int) RX2 wsX2_wordToken p s m args meth c A)  : ∀ (n : Nat) (x1 : Int32) (σ : HS), c_X2_wordToken_2 n x1 σ = some (r0, τ) → V p l e rmX2_wordToken s m args below meth c 2 A G xY 0 0 (MQ below (QI G xY A r0 τ) args s 0 0 A) σ 2 [(0, .ref (G.2.2.1 14)), (1, .int x1)] [] := by
  intro n
  induction n with
  | zero => intro x1 σ h; exact nof h
  | succ n ih =>
    intro x1 σ h
    rw [c_X2_wordToken_2] at h
    refine v_iload_n hC dX2_wordToken_2 1 rfl ?_
    refine v_sipush (v := 160) hC dX2_wordToken_3 (by decide) ?_
    refine v_icmp_ge (tgt := 42) hC dX2_wordToken_6 (by decide) (fun c_1 => ?_) (fun c_1 => ?_)
    · replace h := ift c_1 h
      refine V.sub (L' := [(0, .ref (G.2.2.1 14))]) [0] rfl ?_
      exact w_X2_wordToken_42 hG (hO0) hC h
    · replace h := ifn c_1 h
      refine v_aload_n hC dX2_wordToken_9 0 rfl ?_
      refine v_wt (fun hw_2 => ?_)
      refine v_get (C := RX2) (T := TX2) (N := 5) (ci := 2) (k := 0) (v := rv G.2.2.1 (gR σ 14 0)) hC hO0 hi_X2_wordToken_X2 rfl (by decide) (by decide) rfl rfl fl9_X2_wordToken dX2_wordToken_10 rfl ?_
      refine v_aload_n hC dX2_wordToken_13 0 rfl ?_
      refine v_get (C := RX2) (T := TX2) (N := 5) (ci := 2) (k := 4) (v := .int (gI σ 14 4)) hC hO0 hi_X2_wordToken_X2 rfl (by decide) (by decide) rfl rfl fl19_X2_wordToken dX2_wordToken_14 rfl ?_
      obtain ⟨j3, hj4, h⟩ := mrd h
      rw [hj4]
      rw [rv_s]
      obtain ⟨r7, s6, hc_5, h⟩ := bd2 h
      refine v_callVI hC xE_ok (n := 1) (As := [.int (gI σ 14 4)]) (k_X5_at l hG ((show Ob G xY j3 5 from (fun j hj => wt_ob hw_2 hO0 hj) j3 hj4)) hc_5) (cwV 1 hC.1.2.2.2.2 gX2_wordToken_X5_at rfl rfl rfl (by decide +kernel) ⟨(Nat.le_of_ble_eq_true rfl), (Nat.le_of_ble_eq_true rfl)⟩) (show Ob G xY j3 5 from (fun j hj => wt_ob hw_2 hO0 hj) j3 hj4) (by decide) rfl rfl rfl (Nat.le_of_ble_eq_true rfl) ⟨Nat.zero_le _, Nat.zero_le _⟩ dX2_wordToken_17 rfl ?_
      obtain ⟨r10, s9, hc_8, h⟩ := bd2 h
      refine v_callSI hC xE_ok (n := 1) (As := [.int r7]) (k_X2_isLetter l hG hc_8) (va_cwS 1 hC.1.2.2.2.2 gX2_wordToken_X2_isLetter rfl rfl rfl (by decide +kernel) ⟨(Nat.le_of_ble_eq_true rfl), (Nat.le_of_ble_eq_true rfl)⟩) rfl (Nat.le_of_ble_eq_true rfl) ⟨Nat.zero_le _, Nat.zero_le _⟩ dX2_wordToken_20 rfl ?_
      refine v_if_eq (tgt := 42) hC dX2_wordToken_23 (by decide) (fun c_11 => ?_) (fun c_11 => ?_)
      · replace h := ift c_11 h
        refine V.sub (L' := [(0, .ref (G.2.2.1 14))]) [0] rfl ?_
        exact w_X2_wordToken_42 hG (hO0) hC h
      · replace h := ifn c_11 h
        refine v_aload_n hC dX2_wordToken_26 0 rfl ?_
        refine v_dup hC dX2_wordToken_27 rfl ?_
        refine v_get (C := RX2) (T := TX2) (N := 5) (ci := 2) (k := 4) (v := .int (gI s9 14 4)) hC hO0 hi_X2_wordToken_X2 rfl (by decide) (by decide) rfl rfl fl19_X2_wordToken dX2_wordToken_28 rfl ?_
        refine v_iconst (v := 1) hC dX2_wordToken_31 (by decide) ?_
        refine v_iadd hC dX2_wordToken_32 ?_
        refine v_putI (C := RX2) (T := TX2) (N := 5) (ci := 2) (k := 4) (ty := .int) hC hO0 hi_X2_wordToken_X2 rfl (by decide) (by decide) rfl rfl tyX2_ok nmX2 fl19_X2_wordToken rfl rfl rfl rfl rfl dX2_wordToken_33 ?_
        obtain ⟨s12, e13, h⟩ := ld h
        refine V.eq e13 ?_
        refine v_iinc (v := (x1 + 1)) (L' := [(0, .ref (G.2.2.1 14)), (1, .int (x1 + 1))]) hC dX2_wordToken_36 1 rfl rfl (by decide) [1, 0] rfl ?_
        refine v_goto (tgt := 2) hC dX2_wordToken_39 (by decide) ?_
        exact ih _ _ h
def c_X2_wordToken (σ : HS) : Option (Int32 × HS) := (c_X2_wordToken_2 FU 0 σ)
set_option maxHeartbeats 4000000 in
set_option maxRecDepth 100000 in
theorem w_X2_wordToken {adK adV : Nat → Nat} {tb : Nat} {p : Program} {l : Launch} {e : Env} {s : State} {m : MethodId} {args : Array Value} {below : List Frame} {meth : Method} {c : Code} {A : Nat → Prop} {G : WD}  {r0 : Int32} {τ : HS}  {σ : HS}  (hG : GX G xY) (hO0 : Ob G xY 14 2) (hC : Cx (xE adK adV tb) G.1 G.2.1 xY cX2_wordToken 2 (some .int) RX2 wsX2_wordToken p s m args meth c A) (h : c_X2_wordToken  σ = some (r0, τ)) : V p l e rmX2_wordToken s m args below meth c 2 A G xY 0 0 (MQ below (QI G xY A r0 τ) args s 0 0 A) σ 0 [(0, .ref (G.2.2.1 14))] [] := by
  rw [c_X2_wordToken] at h
  refine v_iconst (v := 0) hC dX2_wordToken_0 (by decide) ?_
  refine v_istore_n (L' := [(0, .ref (G.2.2.1 14)), (1, .int 0)]) hC dX2_wordToken_1 (by decide) [1, 0] rfl ?_
  exact w_X2_wordToken_2 hG (hO0) hC FU _ _ h
theorem k_X2_wordToken {adK adV : Nat → Nat} {tb : Nat} (l : Launch) {G : WD}   {r0 : Int32} {τ : HS}  {σ : HS}  (hG : GX G xY) (hO0 : Ob G xY 14 2) (h : c_X2_wordToken  σ = some (r0, τ)) : MI (xE adK adV tb) l yX2_wordToken wsX2_wordToken rmX2_wordToken G xY [.ref (G.2.2.1 14)] σ r0 τ :=
  MI.of RX2 (by decide) rfl rfl (Nat.le_of_ble_eq_true rfl) rfl rfl (fun p e s m below meth c hC => w_X2_wordToken  hG hO0 hC h)
abbrev rmX2_numberToken : Room := { frames := 1, cells := 0, slots := 0, locals := 21 }
def c_X2_numberToken_64 (x1 : Int32) (σ : HS) : Option (Int32 × HS) := (if ((gI σ 14 4) - (gI σ 14 3)) ≤ 4 then (some (x1, σ)) else (some (10022, σ)))
set_option maxHeartbeats 4000000 in
set_option maxRecDepth 100000 in
theorem w_X2_numberToken_64 {adK adV : Nat → Nat} {tb : Nat} {p : Program} {l : Launch} {e : Env} {s : State} {m : MethodId} {args : Array Value} {below : List Frame} {meth : Method} {c : Code} {A : Nat → Prop} {G : WD}  {r0 : Int32} {τ : HS}  {x1 : Int32} {σ : HS}  (hG : GX G xY) (hO0 : Ob G xY 14 2) (hC : Cx (xE adK adV tb) G.1 G.2.1 xY cX2_numberToken 3 (some .int) RX2 wsX2_numberToken p s m args meth c A)  (h : c_X2_numberToken_64 x1 σ = some (r0, τ)) : V p l e rmX2_numberToken s m args below meth c 3 A G xY 0 0 (MQ below (QI G xY A r0 τ) args s 0 0 A) σ 64 [(0, .ref (G.2.2.1 14)), (1, .int x1)] [] := by
  rw [c_X2_numberToken_64] at h
  refine v_aload_n hC dX2_numberToken_64 0 rfl ?_
  refine v_get (C := RX2) (T := TX2) (N := 5) (ci := 2) (k := 4) (v := .int (gI σ 14 4)) hC hO0 hi_X2_numberToken_X2 rfl (by decide) (by decide) rfl rfl fl19_X2_numberToken dX2_numberToken_65 rfl ?_
  refine v_aload_n hC dX2_numberToken_68 0 rfl ?_
  refine v_get (C := RX2) (T := TX2) (N := 5) (ci := 2) (k := 3) (v := .int (gI σ 14 3)) hC hO0 hi_X2_numberToken_X2 rfl (by decide) (by decide) rfl rfl fl40_X2_numberToken dX2_numberToken_69 rfl ?_
  refine v_isub hC dX2_numberToken_72 ?_
  refine v_iconst (v := 4) hC dX2_numberToken_73 (by decide) ?_
  refine v_icmp_le (tgt := 83) hC dX2_numberToken_74 (by decide) (fun c_20 => ?_) (fun c_20 => ?_)
  · replace h := ift c_20 h
    refine v_iload_n hC dX2_numberToken_83 1 rfl ?_
    exact v_iret hC rfl dX2_numberToken_84 h
  · replace h := ifn c_20 h
    refine v_sipush (v := 10022) hC dX2_numberToken_77 (by decide) ?_
    refine v_goto (tgt := 84) hC dX2_numberToken_80 (by decide) ?_
    exact v_iret hC rfl dX2_numberToken_84 h
def c_X2_numberToken_4 : Nat → Int32 → Int32 → HS → Option (Int32 × HS)
  | 0, _, _, _ => none
  | n + 1, x1, x2, σ => (if 160 ≤ x2 then (c_X2_numberToken_64 x1 σ) else (mr (gR σ 14 0) (fun j3 => (bi2 (c_X5_at j3 (gI σ 14 4) σ) (fun r7 s6 => (bi2 (c_X2_isDigit r7 s6) (fun r10 s9 => (if r10 = 0 then (c_X2_numberToken_64 x1 s9) else (mr (gR s9 14 0) (fun j13 => (bi2 (c_X5_at j13 (gI s9 14 4) s9) (fun r17 s16 => (lt (sI s16 14 4 ((gI s16 14 4) + 1)) (fun s18 => (c_X2_numberToken_4 n (((10 * x1) + r17) - 48) (x2 + 1) s18)))))))))))))))
set_option maxHeartbeats 4000000 in
set_option maxRecDepth 100000 in
theorem w_X2_numberToken_4 {adK adV : Nat → Nat} {tb : Nat} {p : Program} {l : Launch} {e : Env} {s : State} {m : MethodId} {args : Array Value} {below : List Frame} {meth : Method} {c : Code} {A : Nat → Prop} {G : WD}  {r0 : Int32} {τ : HS}   (hG : GX G xY) (hO0 : Ob G xY 14 2) (hC : Cx (xE adK adV tb) G.1 G.2.1 xY cX2_numberToken 3 (some .int) RX2 wsX2_numberToken p s m args meth c A)  : ∀ (n : Nat) (x1 : Int32) (x2 : Int32) (σ : HS), c_X2_numberToken_4 n x1 x2 σ = some (r0, τ) → V p l e rmX2_numberToken s m args below meth c 3 A G xY 0 0 (MQ below (QI G xY A r0 τ) args s 0 0 A) σ 4 [(0, .ref (G.2.2.1 14)), (1, .int x1), (2, .int x2)] [] := by
  intro n
  induction n with
  | zero => intro x1 x2 σ h; exact nof h
  | succ n ih =>
    intro x1 x2 σ h
    rw [c_X2_numberToken_4] at h
    refine v_iload_n hC dX2_numberToken_4 2 rfl ?_
    refine v_sipush (v := 160) hC dX2_numberToken_5 (by decide) ?_
    refine v_icmp_ge (tgt := 64) hC dX2_numberToken_8 (by decide) (fun c_1 => ?_) (fun c_1 => ?_)
    · replace h := ift c_1 h
      refine V.sub (L' := [(0, .ref (G.2.2.1 14)), (1, .int x1)]) [0, 1] rfl ?_
      exact w_X2_numberToken_64 hG (hO0) hC h
    · replace h := ifn c_1 h
      refine v_aload_n hC dX2_numberToken_11 0 rfl ?_
      refine v_wt (fun hw_2 => ?_)
      refine v_get (C := RX2) (T := TX2) (N := 5) (ci := 2) (k := 0) (v := rv G.2.2.1 (gR σ 14 0)) hC hO0 hi_X2_numberToken_X2 rfl (by decide) (by decide) rfl rfl fl9_X2_numberToken dX2_numberToken_12 rfl ?_
      refine v_aload_n hC dX2_numberToken_15 0 rfl ?_
      refine v_get (C := RX2) (T := TX2) (N := 5) (ci := 2) (k := 4) (v := .int (gI σ 14 4)) hC hO0 hi_X2_numberToken_X2 rfl (by decide) (by decide) rfl rfl fl19_X2_numberToken dX2_numberToken_16 rfl ?_
      obtain ⟨j3, hj4, h⟩ := mrd h
      rw [hj4]
      rw [rv_s]
      obtain ⟨r7, s6, hc_5, h⟩ := bd2 h
      refine v_callVI hC xE_ok (n := 1) (As := [.int (gI σ 14 4)]) (k_X5_at l hG ((show Ob G xY j3 5 from (fun j hj => wt_ob hw_2 hO0 hj) j3 hj4)) hc_5) (cwV 1 hC.1.2.2.2.2 gX2_numberToken_X5_at rfl rfl rfl (by decide +kernel) ⟨(Nat.le_of_ble_eq_true rfl), (Nat.le_of_ble_eq_true rfl)⟩) (show Ob G xY j3 5 from (fun j hj => wt_ob hw_2 hO0 hj) j3 hj4) (by decide) rfl rfl rfl (Nat.le_of_ble_eq_true rfl) ⟨Nat.zero_le _, Nat.zero_le _⟩ dX2_numberToken_19 rfl ?_
      obtain ⟨r10, s9, hc_8, h⟩ := bd2 h
      refine v_callSI hC xE_ok (n := 1) (As := [.int r7]) (k_X2_isDigit l hG hc_8) (va_cwS 1 hC.1.2.2.2.2 gX2_numberToken_X2_isDigit rfl rfl rfl (by decide +kernel) ⟨(Nat.le_of_ble_eq_true rfl), (Nat.le_of_ble_eq_true rfl)⟩) rfl (Nat.le_of_ble_eq_true rfl) ⟨Nat.zero_le _, Nat.zero_le _⟩ dX2_numberToken_22 rfl ?_
      refine v_if_eq (tgt := 64) hC dX2_numberToken_25 (by decide) (fun c_11 => ?_) (fun c_11 => ?_)
      · replace h := ift c_11 h
        refine V.sub (L' := [(0, .ref (G.2.2.1 14)), (1, .int x1)]) [0, 1] rfl ?_
        exact w_X2_numberToken_64 hG (hO0) hC h
      · replace h := ifn c_11 h
        refine v_bipush (v := 10) hC dX2_numberToken_28 (by decide) ?_
        refine v_iload_n hC dX2_numberToken_30 1 rfl ?_
        refine v_imul hC dX2_numberToken_31 ?_
        refine v_aload_n hC dX2_numberToken_32 0 rfl ?_
        refine v_wt (fun hw_12 => ?_)
        refine v_get (C := RX2) (T := TX2) (N := 5) (ci := 2) (k := 0) (v := rv G.2.2.1 (gR s9 14 0)) hC hO0 hi_X2_numberToken_X2 rfl (by decide) (by decide) rfl rfl fl9_X2_numberToken dX2_numberToken_33 rfl ?_
        refine v_aload_n hC dX2_numberToken_36 0 rfl ?_
        refine v_get (C := RX2) (T := TX2) (N := 5) (ci := 2) (k := 4) (v := .int (gI s9 14 4)) hC hO0 hi_X2_numberToken_X2 rfl (by decide) (by decide) rfl rfl fl19_X2_numberToken dX2_numberToken_37 rfl ?_
        obtain ⟨j13, hj14, h⟩ := mrd h
        rw [hj14]
        rw [rv_s]
        obtain ⟨r17, s16, hc_15, h⟩ := bd2 h
        refine v_callVI hC xE_ok (n := 1) (As := [.int (gI s9 14 4)]) (k_X5_at l hG ((show Ob G xY j13 5 from (fun j hj => wt_ob hw_12 hO0 hj) j13 hj14)) hc_15) (cwV 1 hC.1.2.2.2.2 gX2_numberToken_X5_at rfl rfl rfl (by decide +kernel) ⟨(Nat.le_of_ble_eq_true rfl), (Nat.le_of_ble_eq_true rfl)⟩) (show Ob G xY j13 5 from (fun j hj => wt_ob hw_12 hO0 hj) j13 hj14) (by decide) rfl rfl rfl (Nat.le_of_ble_eq_true rfl) ⟨Nat.zero_le _, Nat.zero_le _⟩ dX2_numberToken_40 rfl ?_
        refine v_iadd hC dX2_numberToken_43 ?_
        refine v_bipush (v := 48) hC dX2_numberToken_44 (by decide) ?_
        refine v_isub hC dX2_numberToken_46 ?_
        refine v_istore_n (L' := [(0, .ref (G.2.2.1 14)), (1, .int (((10 * x1) + r17) - 48)), (2, .int x2)]) hC dX2_numberToken_47 (by decide) [1, 0, 2] rfl ?_
        refine v_aload_n hC dX2_numberToken_48 0 rfl ?_
        refine v_dup hC dX2_numberToken_49 rfl ?_
        refine v_get (C := RX2) (T := TX2) (N := 5) (ci := 2) (k := 4) (v := .int (gI s16 14 4)) hC hO0 hi_X2_numberToken_X2 rfl (by decide) (by decide) rfl rfl fl19_X2_numberToken dX2_numberToken_50 rfl ?_
        refine v_iconst (v := 1) hC dX2_numberToken_53 (by decide) ?_
        refine v_iadd hC dX2_numberToken_54 ?_
        refine v_putI (C := RX2) (T := TX2) (N := 5) (ci := 2) (k := 4) (ty := .int) hC hO0 hi_X2_numberToken_X2 rfl (by decide) (by decide) rfl rfl tyX2_ok nmX2 fl19_X2_numberToken rfl rfl rfl rfl rfl dX2_numberToken_55 ?_
        obtain ⟨s18, e19, h⟩ := ld h
        refine V.eq e19 ?_
        refine v_iinc (v := (x2 + 1)) (L' := [(0, .ref (G.2.2.1 14)), (1, .int (((10 * x1) + r17) - 48)), (2, .int (x2 + 1))]) hC dX2_numberToken_58 2 rfl rfl (by decide) [1, 2, 0] rfl ?_
        refine v_goto (tgt := 4) hC dX2_numberToken_61 (by decide) ?_
        exact ih _ _ _ h
def c_X2_numberToken (σ : HS) : Option (Int32 × HS) := (c_X2_numberToken_4 FU 0 0 σ)
set_option maxHeartbeats 4000000 in
set_option maxRecDepth 100000 in
theorem w_X2_numberToken {adK adV : Nat → Nat} {tb : Nat} {p : Program} {l : Launch} {e : Env} {s : State} {m : MethodId} {args : Array Value} {below : List Frame} {meth : Method} {c : Code} {A : Nat → Prop} {G : WD}  {r0 : Int32} {τ : HS}  {σ : HS}  (hG : GX G xY) (hO0 : Ob G xY 14 2) (hC : Cx (xE adK adV tb) G.1 G.2.1 xY cX2_numberToken 3 (some .int) RX2 wsX2_numberToken p s m args meth c A) (h : c_X2_numberToken  σ = some (r0, τ)) : V p l e rmX2_numberToken s m args below meth c 3 A G xY 0 0 (MQ below (QI G xY A r0 τ) args s 0 0 A) σ 0 [(0, .ref (G.2.2.1 14))] [] := by
  rw [c_X2_numberToken] at h
  refine v_iconst (v := 0) hC dX2_numberToken_0 (by decide) ?_
  refine v_istore_n (L' := [(0, .ref (G.2.2.1 14)), (1, .int 0)]) hC dX2_numberToken_1 (by decide) [1, 0] rfl ?_
  refine v_iconst (v := 0) hC dX2_numberToken_2 (by decide) ?_
  refine v_istore_n (L' := [(0, .ref (G.2.2.1 14)), (1, .int 0), (2, .int 0)]) hC dX2_numberToken_3 (by decide) [1, 2, 0] rfl ?_
  exact w_X2_numberToken_4 hG (hO0) hC FU _ _ _ h
theorem k_X2_numberToken {adK adV : Nat → Nat} {tb : Nat} (l : Launch) {G : WD}   {r0 : Int32} {τ : HS}  {σ : HS}  (hG : GX G xY) (hO0 : Ob G xY 14 2) (h : c_X2_numberToken  σ = some (r0, τ)) : MI (xE adK adV tb) l yX2_numberToken wsX2_numberToken rmX2_numberToken G xY [.ref (G.2.2.1 14)] σ r0 τ :=
  MI.of RX2 (by decide) rfl rfl (Nat.le_of_ble_eq_true rfl) rfl rfl (fun p e s m below meth c hC => w_X2_numberToken  hG hO0 hC h)
abbrev rmX2_take : Room := { frames := 10, cells := 0, slots := 0, locals := 443 }
def c_X2_take_50 (σ : HS) : Option HS := (lt (sI σ 14 4 (gI σ 14 3)) (fun s16 => (mr (gR s16 14 0) (fun j19 => (bi2 (c_X5_at j19 (gI s16 14 3) s16) (fun r23 s22 => (if r23 = (-1) then (lt (sI s22 14 2 10021) (fun s50 => (some s50))) else (bi2 (c_X2_isLetter r23 s22) (fun r27 s26 => (if r27 = 0 then (bi2 (c_X2_isDigit r23 s26) (fun r31 s30 => (if r31 = 0 then (lt (sI s30 14 4 ((gI s30 14 3) + 1)) (fun s33 => (bi2 (c_X2_signToken r23 s33) (fun r37 s36 => (lt (sI s36 14 2 r37) (fun s38 => (some s38))))))) else (bi2 (c_X2_numberToken s30) (fun r42 s41 => (lt (sI s41 14 2 r42) (fun s43 => (some s43)))))))) else (bi2 (c_X2_wordToken s26) (fun r47 s46 => (lt (sI s46 14 2 r47) (fun s48 => (some s48)))))))))))))))
set_option maxHeartbeats 4000000 in
set_option maxRecDepth 100000 in
theorem w_X2_take_50 {adK adV : Nat → Nat} {tb : Nat} {p : Program} {l : Launch} {e : Env} {s : State} {m : MethodId} {args : Array Value} {below : List Frame} {meth : Method} {c : Code} {A : Nat → Prop} {G : WD}  {τ : HS}   {σ : HS}  (hG : GX G xY) (hO0 : Ob G xY 14 2) (hC : Cx (xE adK adV tb) G.1 G.2.1 xY cX2_take 2 none RX2 wsX2_take p s m args meth c A)  (h : c_X2_take_50  σ = some τ) : V p l e rmX2_take s m args below meth c 2 A G xY 0 0 (MQ below (QV G xY A τ) args s 0 0 A) σ 50 [(0, .ref (G.2.2.1 14))] [] := by
  rw [c_X2_take_50] at h
  refine v_aload_n hC dX2_take_50 0 rfl ?_
  refine v_aload_n hC dX2_take_51 0 rfl ?_
  refine v_get (C := RX2) (T := TX2) (N := 5) (ci := 2) (k := 3) (v := .int (gI σ 14 3)) hC hO0 hi_X2_take_X2 rfl (by decide) (by decide) rfl rfl fl40_X2_take dX2_take_52 rfl ?_
  refine v_putI (C := RX2) (T := TX2) (N := 5) (ci := 2) (k := 4) (ty := .int) hC hO0 hi_X2_take_X2 rfl (by decide) (by decide) rfl rfl tyX2_ok nmX2 fl19_X2_take rfl rfl rfl rfl rfl dX2_take_55 ?_
  obtain ⟨s16, e17, h⟩ := ld h
  refine V.eq e17 ?_
  refine v_aload_n hC dX2_take_58 0 rfl ?_
  refine v_wt (fun hw_18 => ?_)
  refine v_get (C := RX2) (T := TX2) (N := 5) (ci := 2) (k := 0) (v := rv G.2.2.1 (gR s16 14 0)) hC hO0 hi_X2_take_X2 rfl (by decide) (by decide) rfl rfl fl9_X2_take dX2_take_59 rfl ?_
  refine v_aload_n hC dX2_take_62 0 rfl ?_
  refine v_get (C := RX2) (T := TX2) (N := 5) (ci := 2) (k := 3) (v := .int (gI s16 14 3)) hC hO0 hi_X2_take_X2 rfl (by decide) (by decide) rfl rfl fl40_X2_take dX2_take_63 rfl ?_
  obtain ⟨j19, hj20, h⟩ := mrd h
  rw [hj20]
  rw [rv_s]
  obtain ⟨r23, s22, hc_21, h⟩ := bd2 h
  refine v_callVI hC xE_ok (n := 1) (As := [.int (gI s16 14 3)]) (k_X5_at l hG ((show Ob G xY j19 5 from (fun j hj => wt_ob hw_18 hO0 hj) j19 hj20)) hc_21) (cwV 1 hC.1.2.2.2.2 gX2_take_X5_at rfl rfl rfl (by decide +kernel) ⟨(Nat.le_of_ble_eq_true rfl), (Nat.le_of_ble_eq_true rfl)⟩) (show Ob G xY j19 5 from (fun j hj => wt_ob hw_18 hO0 hj) j19 hj20) (by decide) rfl rfl rfl (Nat.le_of_ble_eq_true rfl) ⟨Nat.zero_le _, Nat.zero_le _⟩ dX2_take_66 rfl ?_
  refine v_istore_n (L' := [(0, .ref (G.2.2.1 14)), (1, .int r23)]) hC dX2_take_69 (by decide) [1, 0] rfl ?_
  refine v_iload_n hC dX2_take_70 1 rfl ?_
  refine v_iconst (v := (-1)) hC dX2_take_71 (by decide) ?_
  refine v_icmp_ne (tgt := 85) hC dX2_take_72 (by decide) (fun c_24 => ?_) (fun c_24 => ?_)
  · replace h := ifn c_24 h
    refine v_iload_n hC dX2_take_85 1 rfl ?_
    obtain ⟨r27, s26, hc_25, h⟩ := bd2 h
    refine v_callSI hC xE_ok (n := 1) (As := [.int r23]) (k_X2_isLetter l hG hc_25) (va_cwS 1 hC.1.2.2.2.2 gX2_take_X2_isLetter rfl rfl rfl (by decide +kernel) ⟨(Nat.le_of_ble_eq_true rfl), (Nat.le_of_ble_eq_true rfl)⟩) rfl (Nat.le_of_ble_eq_true rfl) ⟨Nat.zero_le _, Nat.zero_le _⟩ dX2_take_86 rfl ?_
    refine v_if_eq (tgt := 103) hC dX2_take_89 (by decide) (fun c_28 => ?_) (fun c_28 => ?_)
    · replace h := ift c_28 h
      refine v_iload_n hC dX2_take_103 1 rfl ?_
      obtain ⟨r31, s30, hc_29, h⟩ := bd2 h
      refine v_callSI hC xE_ok (n := 1) (As := [.int r23]) (k_X2_isDigit l hG hc_29) (va_cwS 1 hC.1.2.2.2.2 gX2_take_X2_isDigit rfl rfl rfl (by decide +kernel) ⟨(Nat.le_of_ble_eq_true rfl), (Nat.le_of_ble_eq_true rfl)⟩) rfl (Nat.le_of_ble_eq_true rfl) ⟨Nat.zero_le _, Nat.zero_le _⟩ dX2_take_104 rfl ?_
      refine v_if_eq (tgt := 121) hC dX2_take_107 (by decide) (fun c_32 => ?_) (fun c_32 => ?_)
      · replace h := ift c_32 h
        refine v_aload_n hC dX2_take_121 0 rfl ?_
        refine v_aload_n hC dX2_take_122 0 rfl ?_
        refine v_get (C := RX2) (T := TX2) (N := 5) (ci := 2) (k := 3) (v := .int (gI s30 14 3)) hC hO0 hi_X2_take_X2 rfl (by decide) (by decide) rfl rfl fl40_X2_take dX2_take_123 rfl ?_
        refine v_iconst (v := 1) hC dX2_take_126 (by decide) ?_
        refine v_iadd hC dX2_take_127 ?_
        refine v_putI (C := RX2) (T := TX2) (N := 5) (ci := 2) (k := 4) (ty := .int) hC hO0 hi_X2_take_X2 rfl (by decide) (by decide) rfl rfl tyX2_ok nmX2 fl19_X2_take rfl rfl rfl rfl rfl dX2_take_128 ?_
        obtain ⟨s33, e34, h⟩ := ld h
        refine V.eq e34 ?_
        refine v_aload_n hC dX2_take_131 0 rfl ?_
        refine v_iload_n hC dX2_take_132 1 rfl ?_
        obtain ⟨r37, s36, hc_35, h⟩ := bd2 h
        refine v_callSI hC xE_ok (n := 1) (As := [.int r23]) (k_X2_signToken l hG hc_35) (va_cwS 1 hC.1.2.2.2.2 gX2_take_X2_signToken rfl rfl rfl (by decide +kernel) ⟨(Nat.le_of_ble_eq_true rfl), (Nat.le_of_ble_eq_true rfl)⟩) rfl (Nat.le_of_ble_eq_true rfl) ⟨Nat.zero_le _, Nat.zero_le _⟩ dX2_take_133 rfl ?_
        refine v_putI (C := RX2) (T := TX2) (N := 5) (ci := 2) (k := 2) (ty := .int) hC hO0 hi_X2_take_X2 rfl (by decide) (by decide) rfl rfl tyX2_ok nmX2 fl37_X2_take rfl rfl rfl rfl rfl dX2_take_136 ?_
        obtain ⟨s38, e39, h⟩ := ld h
        refine V.eq e39 ?_
        exact v_vret hC rfl dX2_take_139 h
      · replace h := ifn c_32 h
        refine v_aload_n hC dX2_take_110 0 rfl ?_
        refine v_aload_n hC dX2_take_111 0 rfl ?_
        obtain ⟨r42, s41, hc_40, h⟩ := bd2 h
        refine v_callVI hC xE_ok (n := 0) (As := []) (k_X2_numberToken l hG (hO0) hc_40) (cwV 0 hC.1.2.2.2.2 gX2_take_X2_numberToken rfl rfl rfl (by decide +kernel) ⟨(Nat.le_of_ble_eq_true rfl), (Nat.le_of_ble_eq_true rfl)⟩) hO0 (by decide) rfl rfl rfl (Nat.le_of_ble_eq_true rfl) ⟨Nat.zero_le _, Nat.zero_le _⟩ dX2_take_112 rfl ?_
        refine v_putI (C := RX2) (T := TX2) (N := 5) (ci := 2) (k := 2) (ty := .int) hC hO0 hi_X2_take_X2 rfl (by decide) (by decide) rfl rfl tyX2_ok nmX2 fl37_X2_take rfl rfl rfl rfl rfl dX2_take_115 ?_
        obtain ⟨s43, e44, h⟩ := ld h
        refine V.eq e44 ?_
        refine v_goto (tgt := 139) hC dX2_take_118 (by decide) ?_
        exact v_vret hC rfl dX2_take_139 h
    · replace h := ifn c_28 h
      refine v_aload_n hC dX2_take_92 0 rfl ?_
      refine v_aload_n hC dX2_take_93 0 rfl ?_
      obtain ⟨r47, s46, hc_45, h⟩ := bd2 h
      refine v_callVI hC xE_ok (n := 0) (As := []) (k_X2_wordToken l hG (hO0) hc_45) (cwV 0 hC.1.2.2.2.2 gX2_take_X2_wordToken rfl rfl rfl (by decide +kernel) ⟨(Nat.le_of_ble_eq_true rfl), (Nat.le_of_ble_eq_true rfl)⟩) hO0 (by decide) rfl rfl rfl (Nat.le_of_ble_eq_true rfl) ⟨Nat.zero_le _, Nat.zero_le _⟩ dX2_take_94 rfl ?_
      refine v_putI (C := RX2) (T := TX2) (N := 5) (ci := 2) (k := 2) (ty := .int) hC hO0 hi_X2_take_X2 rfl (by decide) (by decide) rfl rfl tyX2_ok nmX2 fl37_X2_take rfl rfl rfl rfl rfl dX2_take_97 ?_
      obtain ⟨s48, e49, h⟩ := ld h
      refine V.eq e49 ?_
      refine v_goto (tgt := 139) hC dX2_take_100 (by decide) ?_
      exact v_vret hC rfl dX2_take_139 h
  · replace h := ift c_24 h
    refine v_aload_n hC dX2_take_75 0 rfl ?_
    refine v_sipush (v := 10021) hC dX2_take_76 (by decide) ?_
    refine v_putI (C := RX2) (T := TX2) (N := 5) (ci := 2) (k := 2) (ty := .int) hC hO0 hi_X2_take_X2 rfl (by decide) (by decide) rfl rfl tyX2_ok nmX2 fl37_X2_take rfl rfl rfl rfl rfl dX2_take_79 ?_
    obtain ⟨s50, e51, h⟩ := ld h
    refine V.eq e51 ?_
    refine v_goto (tgt := 139) hC dX2_take_82 (by decide) ?_
    exact v_vret hC rfl dX2_take_139 h
def c_X2_take_10 : Nat → Int32 → HS → Option HS
  | 0, _, _ => none
  | n + 1, x1, σ => (if 160 ≤ x1 then (c_X2_take_50 σ) else (mr (gR σ 14 0) (fun j5 => (bi2 (c_X5_at j5 (gI σ 14 3) σ) (fun r9 s8 => (bi2 (c_X2_isBlank r9 s8) (fun r12 s11 => (if r12 = 0 then (c_X2_take_50 s11) else (lt (sI s11 14 3 ((gI s11 14 3) + 1)) (fun s14 => (c_X2_take_10 n (x1 + 1) s14)))))))))))
set_option maxHeartbeats 4000000 in
set_option maxRecDepth 100000 in
theorem w_X2_take_10 {adK adV : Nat → Nat} {tb : Nat} {p : Program} {l : Launch} {e : Env} {s : State} {m : MethodId} {args : Array Value} {below : List Frame} {meth : Method} {c : Code} {A : Nat → Prop} {G : WD}  {τ : HS}   (hG : GX G xY) (hO0 : Ob G xY 14 2) (hC : Cx (xE adK adV tb) G.1 G.2.1 xY cX2_take 2 none RX2 wsX2_take p s m args meth c A)  : ∀ (n : Nat) (x1 : Int32) (σ : HS), c_X2_take_10 n x1 σ = some τ → V p l e rmX2_take s m args below meth c 2 A G xY 0 0 (MQ below (QV G xY A τ) args s 0 0 A) σ 10 [(0, .ref (G.2.2.1 14)), (1, .int x1)] [] := by
  intro n
  induction n with
  | zero => intro x1 σ h; exact nof h
  | succ n ih =>
    intro x1 σ h
    rw [c_X2_take_10] at h
    refine v_iload_n hC dX2_take_10 1 rfl ?_
    refine v_sipush (v := 160) hC dX2_take_11 (by decide) ?_
    refine v_icmp_ge (tgt := 50) hC dX2_take_14 (by decide) (fun c_3 => ?_) (fun c_3 => ?_)
    · replace h := ift c_3 h
      refine V.sub (L' := [(0, .ref (G.2.2.1 14))]) [0] rfl ?_
      exact w_X2_take_50 hG (hO0) hC h
    · replace h := ifn c_3 h
      refine v_aload_n hC dX2_take_17 0 rfl ?_
      refine v_wt (fun hw_4 => ?_)
      refine v_get (C := RX2) (T := TX2) (N := 5) (ci := 2) (k := 0) (v := rv G.2.2.1 (gR σ 14 0)) hC hO0 hi_X2_take_X2 rfl (by decide) (by decide) rfl rfl fl9_X2_take dX2_take_18 rfl ?_
      refine v_aload_n hC dX2_take_21 0 rfl ?_
      refine v_get (C := RX2) (T := TX2) (N := 5) (ci := 2) (k := 3) (v := .int (gI σ 14 3)) hC hO0 hi_X2_take_X2 rfl (by decide) (by decide) rfl rfl fl40_X2_take dX2_take_22 rfl ?_
      obtain ⟨j5, hj6, h⟩ := mrd h
      rw [hj6]
      rw [rv_s]
      obtain ⟨r9, s8, hc_7, h⟩ := bd2 h
      refine v_callVI hC xE_ok (n := 1) (As := [.int (gI σ 14 3)]) (k_X5_at l hG ((show Ob G xY j5 5 from (fun j hj => wt_ob hw_4 hO0 hj) j5 hj6)) hc_7) (cwV 1 hC.1.2.2.2.2 gX2_take_X5_at rfl rfl rfl (by decide +kernel) ⟨(Nat.le_of_ble_eq_true rfl), (Nat.le_of_ble_eq_true rfl)⟩) (show Ob G xY j5 5 from (fun j hj => wt_ob hw_4 hO0 hj) j5 hj6) (by decide) rfl rfl rfl (Nat.le_of_ble_eq_true rfl) ⟨Nat.zero_le _, Nat.zero_le _⟩ dX2_take_25 rfl ?_
      obtain ⟨r12, s11, hc_10, h⟩ := bd2 h
      refine v_callSI hC xE_ok (n := 1) (As := [.int r9]) (k_X2_isBlank l hG hc_10) (va_cwS 1 hC.1.2.2.2.2 gX2_take_X2_isBlank rfl rfl rfl (by decide +kernel) ⟨(Nat.le_of_ble_eq_true rfl), (Nat.le_of_ble_eq_true rfl)⟩) rfl (Nat.le_of_ble_eq_true rfl) ⟨Nat.zero_le _, Nat.zero_le _⟩ dX2_take_28 rfl ?_
      refine v_if_eq (tgt := 50) hC dX2_take_31 (by decide) (fun c_13 => ?_) (fun c_13 => ?_)
      · replace h := ift c_13 h
        refine V.sub (L' := [(0, .ref (G.2.2.1 14))]) [0] rfl ?_
        exact w_X2_take_50 hG (hO0) hC h
      · replace h := ifn c_13 h
        refine v_aload_n hC dX2_take_34 0 rfl ?_
        refine v_dup hC dX2_take_35 rfl ?_
        refine v_get (C := RX2) (T := TX2) (N := 5) (ci := 2) (k := 3) (v := .int (gI s11 14 3)) hC hO0 hi_X2_take_X2 rfl (by decide) (by decide) rfl rfl fl40_X2_take dX2_take_36 rfl ?_
        refine v_iconst (v := 1) hC dX2_take_39 (by decide) ?_
        refine v_iadd hC dX2_take_40 ?_
        refine v_putI (C := RX2) (T := TX2) (N := 5) (ci := 2) (k := 3) (ty := .int) hC hO0 hi_X2_take_X2 rfl (by decide) (by decide) rfl rfl tyX2_ok nmX2 fl40_X2_take rfl rfl rfl rfl rfl dX2_take_41 ?_
        obtain ⟨s14, e15, h⟩ := ld h
        refine V.eq e15 ?_
        refine v_iinc (v := (x1 + 1)) (L' := [(0, .ref (G.2.2.1 14)), (1, .int (x1 + 1))]) hC dX2_take_44 1 rfl rfl (by decide) [1, 0] rfl ?_
        refine v_goto (tgt := 10) hC dX2_take_47 (by decide) ?_
        exact ih _ _ h
def c_X2_take (σ : HS) : Option HS := (lt (sI σ 14 3 (gI σ 14 4)) (fun s1 => (c_X2_take_10 FU 0 s1)))
set_option maxHeartbeats 4000000 in
set_option maxRecDepth 100000 in
theorem w_X2_take {adK adV : Nat → Nat} {tb : Nat} {p : Program} {l : Launch} {e : Env} {s : State} {m : MethodId} {args : Array Value} {below : List Frame} {meth : Method} {c : Code} {A : Nat → Prop} {G : WD}  {τ : HS}  {σ : HS}  (hG : GX G xY) (hO0 : Ob G xY 14 2) (hC : Cx (xE adK adV tb) G.1 G.2.1 xY cX2_take 2 none RX2 wsX2_take p s m args meth c A) (h : c_X2_take  σ = some τ) : V p l e rmX2_take s m args below meth c 2 A G xY 0 0 (MQ below (QV G xY A τ) args s 0 0 A) σ 0 [(0, .ref (G.2.2.1 14))] [] := by
  rw [c_X2_take] at h
  refine v_aload_n hC dX2_take_0 0 rfl ?_
  refine v_aload_n hC dX2_take_1 0 rfl ?_
  refine v_get (C := RX2) (T := TX2) (N := 5) (ci := 2) (k := 4) (v := .int (gI σ 14 4)) hC hO0 hi_X2_take_X2 rfl (by decide) (by decide) rfl rfl fl19_X2_take dX2_take_2 rfl ?_
  refine v_putI (C := RX2) (T := TX2) (N := 5) (ci := 2) (k := 3) (ty := .int) hC hO0 hi_X2_take_X2 rfl (by decide) (by decide) rfl rfl tyX2_ok nmX2 fl40_X2_take rfl rfl rfl rfl rfl dX2_take_5 ?_
  obtain ⟨s1, e2, h⟩ := ld h
  refine V.eq e2 ?_
  refine v_iconst (v := 0) hC dX2_take_8 (by decide) ?_
  refine v_istore_n (L' := [(0, .ref (G.2.2.1 14)), (1, .int 0)]) hC dX2_take_9 (by decide) [1, 0] rfl ?_
  exact w_X2_take_10 hG (hO0) hC FU _ _ h
theorem k_X2_take {adK adV : Nat → Nat} {tb : Nat} (l : Launch) {G : WD}   {τ : HS}  {σ : HS}  (hG : GX G xY) (hO0 : Ob G xY 14 2) (h : c_X2_take  σ = some τ) : MV (xE adK adV tb) l yX2_take wsX2_take rmX2_take G xY [.ref (G.2.2.1 14)] σ τ :=
  MV.of RX2 (by decide) rfl rfl (Nat.le_of_ble_eq_true rfl) rfl rfl (fun p e s m below meth c hC => w_X2_take  hG hO0 hC h)
def c_X2_readOne (kF : Int32 → HS → Option (Int32 × HS)) (kN : Int32 → HS → Option (Int32 × HS)) (kO : Int32 → HS → Option (Int32 × HS)) (p1 : Int32) (σ : HS) : Option (Int32 × HS) := (if 10006 ≤ (gI σ 14 2) then (if p1 < 5 then (if (gI σ 14 2) = 10016 then (bi1 (c_X2_take σ) (fun s15 => (bi2 (kO (p1 + 1) s15) (fun r18 s17 => (mr (gR s17 14 1) (fun j20 => (bi1 (c_X6_add j20 10020 s17) (fun s23 => (if isz r18 = true then (some (r18, s23)) else none))))))))) else (if (gI σ 14 2) = 10012 then (bi1 (c_X2_take σ) (fun s6 => (bi2 (kF (p1 + 1) s6) (fun r9 s8 => (if r9 = 0 then (some (0, s8)) else (if (gI s8 14 2) = 10013 then (bi1 (c_X2_take s8) (fun s13 => (some (1, s13)))) else (some (0, s8)))))))) else (some (0, σ)))) else (some (0, σ))) else (mr (gR σ 14 1) (fun j26 => (bi1 (c_X6_add j26 (gI σ 14 2) σ) (fun s29 => (bi1 (c_X2_take s29) (fun s31 => (some (1, s31)))))))))
set_option maxHeartbeats 4000000 in
set_option maxRecDepth 100000 in
theorem w_X2_readOne {adK adV : Nat → Nat} {tb : Nat} {p : Program} {l : Launch} {e : Env} {s : State} {m : MethodId} {args : Array Value} {below : List Frame} {meth : Method} {c : Code} {A : Nat → Prop} {G : WD} {fr lo : Nat} {kF : Int32 → HS → Option (Int32 × HS)} {kN : Int32 → HS → Option (Int32 × HS)} {kO : Int32 → HS → Option (Int32 × HS)} {r0 : Int32} {τ : HS} {p1 : Int32} {σ : HS} (hkF : ∀ {a : Int32} {σ τ : HS} {r : Int32}, kF a σ = some (r, τ) → MI (xE adK adV tb) l yX2_readFormula wsX2_readFormula { frames := fr + 16, cells := 0, slots := 0, locals := lo + 840 } G xY [.ref (G.2.2.1 14), .int a] σ r τ) (hkN : ∀ {a : Int32} {σ τ : HS} {r : Int32}, kN a σ = some (r, τ) → MI (xE adK adV tb) l yX2_readNot wsX2_readNot { frames := fr + 14, cells := 0, slots := 0, locals := lo + 760 } G xY [.ref (G.2.2.1 14), .int a] σ r τ) (hkO : ∀ {a : Int32} {σ τ : HS} {r : Int32}, kO a σ = some (r, τ) → MI (xE adK adV tb) l yX2_readOne wsX2_readOne { frames := fr + 10, cells := 0, slots := 0, locals := lo + 600 } G xY [.ref (G.2.2.1 14), .int a] σ r τ) (hG : GX G xY) (hO0 : Ob G xY 14 2) (hC : Cx (xE adK adV tb) G.1 G.2.1 xY cX2_readOne 3 (some .boolean) RX2 wsX2_readOne p s m args meth c A) (h : c_X2_readOne kF kN kO p1 σ = some (r0, τ)) : V p l e { frames := fr + 20 + 10, cells := 0, slots := 0, locals := lo + 900 + 600 } s m args below meth c 3 A G xY 0 0 (MQ below (QI G xY A r0 τ) args s 0 0 A) σ 0 [(0, .ref (G.2.2.1 14)), (1, .int p1)] [] := by
  rw [c_X2_readOne] at h
  refine v_aload_n hC dX2_readOne_0 0 rfl ?_
  refine v_get (C := RX2) (T := TX2) (N := 5) (ci := 2) (k := 2) (v := .int (gI σ 14 2)) hC hO0 hi_X2_readOne_X2 rfl (by decide) (by decide) rfl rfl fl37_X2_readOne dX2_readOne_1 rfl ?_
  refine v_sipush (v := 10006) hC dX2_readOne_4 (by decide) ?_
  refine v_icmp_ge (tgt := 27) hC dX2_readOne_7 (by decide) (fun c_1 => ?_) (fun c_1 => ?_)
  · replace h := ift c_1 h
    refine v_iload_n hC dX2_readOne_27 1 rfl ?_
    refine v_iconst (v := 5) hC dX2_readOne_28 (by decide) ?_
    refine v_icmp_lt (tgt := 34) hC dX2_readOne_29 (by decide) (fun c_2 => ?_) (fun c_2 => ?_)
    · replace h := ift c_2 h
      refine v_aload_n hC dX2_readOne_34 0 rfl ?_
      refine v_get (C := RX2) (T := TX2) (N := 5) (ci := 2) (k := 2) (v := .int (gI σ 14 2)) hC hO0 hi_X2_readOne_X2 rfl (by decide) (by decide) rfl rfl fl37_X2_readOne dX2_readOne_35 rfl ?_
      refine v_sipush (v := 10016) hC dX2_readOne_38 (by decide) ?_
      refine v_icmp_ne (tgt := 68) hC dX2_readOne_41 (by decide) (fun c_3 => ?_) (fun c_3 => ?_)
      · replace h := ifn c_3 h
        refine v_aload_n hC dX2_readOne_68 0 rfl ?_
        refine v_get (C := RX2) (T := TX2) (N := 5) (ci := 2) (k := 2) (v := .int (gI σ 14 2)) hC hO0 hi_X2_readOne_X2 rfl (by decide) (by decide) rfl rfl fl37_X2_readOne dX2_readOne_69 rfl ?_
        refine v_sipush (v := 10012) hC dX2_readOne_72 (by decide) ?_
        refine v_icmp_eq (tgt := 80) hC dX2_readOne_75 (by decide) (fun c_4 => ?_) (fun c_4 => ?_)
        · replace h := ift c_4 h
          refine v_aload_n hC dX2_readOne_80 0 rfl ?_
          obtain ⟨s6, hc_5, h⟩ := bd1 h
          refine v_callVV hC xE_ok (n := 0) (As := []) (k_X2_take l hG (hO0) hc_5) (cwV 0 hC.1.2.2.2.2 gX2_readOne_X2_take rfl rfl rfl (by decide +kernel) ⟨(by first | omega | (dsimp only; omega) | (dsimp only [rmX2_take]; omega)), (by first | omega | (dsimp only; omega) | (dsimp only [rmX2_take]; omega))⟩) hO0 (by decide) rfl rfl rfl (Nat.le_of_ble_eq_true rfl) ⟨Nat.zero_le _, Nat.zero_le _⟩ dX2_readOne_81 rfl ?_
          refine v_aload_n hC dX2_readOne_84 0 rfl ?_
          refine v_iload_n hC dX2_readOne_85 1 rfl ?_
          refine v_iconst (v := 1) hC dX2_readOne_86 (by decide) ?_
          refine v_iadd hC dX2_readOne_87 ?_
          obtain ⟨r9, s8, hc_7, h⟩ := bd2 h
          refine v_callVI hC xE_ok (n := 1) (As := [.int (p1 + 1)]) (hkF hc_7) (cwV 1 hC.1.2.2.2.2 gX2_readOne_X2_readFormula rfl rfl rfl (by decide +kernel) ⟨(by first | omega | (dsimp only; omega)), (by first | omega | (dsimp only; omega))⟩) hO0 (by decide) rfl rfl rfl (Nat.le_of_ble_eq_true rfl) ⟨Nat.zero_le _, Nat.zero_le _⟩ dX2_readOne_88 rfl ?_
          refine v_if_eq (tgt := 104) hC dX2_readOne_91 (by decide) (fun c_10 => ?_) (fun c_10 => ?_)
          · replace h := ift c_10 h
            refine v_iconst (v := 0) hC dX2_readOne_104 (by decide) ?_
            exact v_zret hC rfl rfl dX2_readOne_105 h
          · replace h := ifn c_10 h
            refine v_aload_n hC dX2_readOne_94 0 rfl ?_
            refine v_get (C := RX2) (T := TX2) (N := 5) (ci := 2) (k := 2) (v := .int (gI s8 14 2)) hC hO0 hi_X2_readOne_X2 rfl (by decide) (by decide) rfl rfl fl37_X2_readOne dX2_readOne_95 rfl ?_
            refine v_sipush (v := 10013) hC dX2_readOne_98 (by decide) ?_
            refine v_icmp_eq (tgt := 106) hC dX2_readOne_101 (by decide) (fun c_11 => ?_) (fun c_11 => ?_)
            · replace h := ift c_11 h
              refine v_aload_n hC dX2_readOne_106 0 rfl ?_
              obtain ⟨s13, hc_12, h⟩ := bd1 h
              refine v_callVV hC xE_ok (n := 0) (As := []) (k_X2_take l hG (hO0) hc_12) (cwV 0 hC.1.2.2.2.2 gX2_readOne_X2_take rfl rfl rfl (by decide +kernel) ⟨(by first | omega | (dsimp only; omega) | (dsimp only [rmX2_take]; omega)), (by first | omega | (dsimp only; omega) | (dsimp only [rmX2_take]; omega))⟩) hO0 (by decide) rfl rfl rfl (Nat.le_of_ble_eq_true rfl) ⟨Nat.zero_le _, Nat.zero_le _⟩ dX2_readOne_107 rfl ?_
              refine v_iconst (v := 1) hC dX2_readOne_110 (by decide) ?_
              exact v_zret hC rfl rfl dX2_readOne_111 h
            · replace h := ifn c_11 h
              refine v_iconst (v := 0) hC dX2_readOne_104 (by decide) ?_
              exact v_zret hC rfl rfl dX2_readOne_105 h
        · replace h := ifn c_4 h
          refine v_iconst (v := 0) hC dX2_readOne_78 (by decide) ?_
          exact v_zret hC rfl rfl dX2_readOne_79 h
      · replace h := ift c_3 h
        refine v_aload_n hC dX2_readOne_44 0 rfl ?_
        obtain ⟨s15, hc_14, h⟩ := bd1 h
        refine v_callVV hC xE_ok (n := 0) (As := []) (k_X2_take l hG (hO0) hc_14) (cwV 0 hC.1.2.2.2.2 gX2_readOne_X2_take rfl rfl rfl (by decide +kernel) ⟨(by first | omega | (dsimp only; omega) | (dsimp only [rmX2_take]; omega)), (by first | omega | (dsimp only; omega) | (dsimp only [rmX2_take]; omega))⟩) hO0 (by decide) rfl rfl rfl (Nat.le_of_ble_eq_true rfl) ⟨Nat.zero_le _, Nat.zero_le _⟩ dX2_readOne_45 rfl ?_
        refine v_aload_n hC dX2_readOne_48 0 rfl ?_
        refine v_iload_n hC dX2_readOne_49 1 rfl ?_
        refine v_iconst (v := 1) hC dX2_readOne_50 (by decide) ?_
        refine v_iadd hC dX2_readOne_51 ?_
        obtain ⟨r18, s17, hc_16, h⟩ := bd2 h
        refine v_callVI hC xE_ok (n := 1) (As := [.int (p1 + 1)]) (hkO hc_16) (cwV 1 hC.1.2.2.2.2 gX2_readOne_X2_readOne rfl rfl rfl (by decide +kernel) ⟨(by first | omega | (dsimp only; omega)), (by first | omega | (dsimp only; omega))⟩) hO0 (by decide) rfl rfl rfl (Nat.le_of_ble_eq_true rfl) ⟨Nat.zero_le _, Nat.zero_le _⟩ dX2_readOne_52 rfl ?_
        refine v_istore_n (L' := [(0, .ref (G.2.2.1 14)), (2, .int r18)]) hC dX2_readOne_55 (by decide) [1, 0] rfl ?_
        refine v_aload_n hC dX2_readOne_56 0 rfl ?_
        refine v_wt (fun hw_19 => ?_)
        refine v_get (C := RX2) (T := TX2) (N := 5) (ci := 2) (k := 1) (v := rv G.2.2.1 (gR s17 14 1)) hC hO0 hi_X2_readOne_X2 rfl (by decide) (by decide) rfl rfl fl15_X2_readOne dX2_readOne_57 rfl ?_
        refine v_sipush (v := 10020) hC dX2_readOne_60 (by decide) ?_
        obtain ⟨j20, hj21, h⟩ := mrd h
        rw [hj21]
        rw [rv_s]
        obtain ⟨s23, hc_22, h⟩ := bd1 h
        refine v_callVV hC xE_ok (n := 1) (As := [.int 10020]) (k_X6_add l hG ((show Ob G xY j20 6 from (fun j hj => wt_ob hw_19 hO0 hj) j20 hj21)) hc_22) (cwV 1 hC.1.2.2.2.2 gX2_readOne_X6_add rfl rfl rfl (by decide +kernel) ⟨(by first | omega | (dsimp only; omega) | (dsimp only [rmX6_add]; omega)), (by first | omega | (dsimp only; omega) | (dsimp only [rmX6_add]; omega))⟩) (show Ob G xY j20 6 from (fun j hj => wt_ob hw_19 hO0 hj) j20 hj21) (by decide) rfl rfl rfl (Nat.le_of_ble_eq_true rfl) ⟨Nat.zero_le _, Nat.zero_le _⟩ dX2_readOne_63 rfl ?_
        refine v_iload_n hC dX2_readOne_66 1 rfl ?_
        obtain ⟨g_24, h⟩ := gd h
        exact v_zret hC rfl (isz_n g_24) dX2_readOne_67 h
    · replace h := ifn c_2 h
      refine v_iconst (v := 0) hC dX2_readOne_32 (by decide) ?_
      exact v_zret hC rfl rfl dX2_readOne_33 h
  · replace h := ifn c_1 h
    refine v_aload_n hC dX2_readOne_10 0 rfl ?_
    refine v_wt (fun hw_25 => ?_)
    refine v_get (C := RX2) (T := TX2) (N := 5) (ci := 2) (k := 1) (v := rv G.2.2.1 (gR σ 14 1)) hC hO0 hi_X2_readOne_X2 rfl (by decide) (by decide) rfl rfl fl15_X2_readOne dX2_readOne_11 rfl ?_
    refine v_aload_n hC dX2_readOne_14 0 rfl ?_
    refine v_get (C := RX2) (T := TX2) (N := 5) (ci := 2) (k := 2) (v := .int (gI σ 14 2)) hC hO0 hi_X2_readOne_X2 rfl (by decide) (by decide) rfl rfl fl37_X2_readOne dX2_readOne_15 rfl ?_
    obtain ⟨j26, hj27, h⟩ := mrd h
    rw [hj27]
    rw [rv_s]
    obtain ⟨s29, hc_28, h⟩ := bd1 h
    refine v_callVV hC xE_ok (n := 1) (As := [.int (gI σ 14 2)]) (k_X6_add l hG ((show Ob G xY j26 6 from (fun j hj => wt_ob hw_25 hO0 hj) j26 hj27)) hc_28) (cwV 1 hC.1.2.2.2.2 gX2_readOne_X6_add rfl rfl rfl (by decide +kernel) ⟨(by first | omega | (dsimp only; omega) | (dsimp only [rmX6_add]; omega)), (by first | omega | (dsimp only; omega) | (dsimp only [rmX6_add]; omega))⟩) (show Ob G xY j26 6 from (fun j hj => wt_ob hw_25 hO0 hj) j26 hj27) (by decide) rfl rfl rfl (Nat.le_of_ble_eq_true rfl) ⟨Nat.zero_le _, Nat.zero_le _⟩ dX2_readOne_18 rfl ?_
    refine v_aload_n hC dX2_readOne_21 0 rfl ?_
    obtain ⟨s31, hc_30, h⟩ := bd1 h
    refine v_callVV hC xE_ok (n := 0) (As := []) (k_X2_take l hG (hO0) hc_30) (cwV 0 hC.1.2.2.2.2 gX2_readOne_X2_take rfl rfl rfl (by decide +kernel) ⟨(by first | omega | (dsimp only; omega) | (dsimp only [rmX2_take]; omega)), (by first | omega | (dsimp only; omega) | (dsimp only [rmX2_take]; omega))⟩) hO0 (by decide) rfl rfl rfl (Nat.le_of_ble_eq_true rfl) ⟨Nat.zero_le _, Nat.zero_le _⟩ dX2_readOne_22 rfl ?_
    refine v_iconst (v := 1) hC dX2_readOne_25 (by decide) ?_
    exact v_zret hC rfl rfl dX2_readOne_26 h
theorem k_X2_readOne {adK adV : Nat → Nat} {tb : Nat} (l : Launch) {G : WD} {fr lo : Nat} {kF : Int32 → HS → Option (Int32 × HS)} {kN : Int32 → HS → Option (Int32 × HS)} {kO : Int32 → HS → Option (Int32 × HS)} {r0 : Int32} {τ : HS} {p1 : Int32} {σ : HS} (hkF : ∀ {a : Int32} {σ τ : HS} {r : Int32}, kF a σ = some (r, τ) → MI (xE adK adV tb) l yX2_readFormula wsX2_readFormula { frames := fr + 16, cells := 0, slots := 0, locals := lo + 840 } G xY [.ref (G.2.2.1 14), .int a] σ r τ) (hkN : ∀ {a : Int32} {σ τ : HS} {r : Int32}, kN a σ = some (r, τ) → MI (xE adK adV tb) l yX2_readNot wsX2_readNot { frames := fr + 14, cells := 0, slots := 0, locals := lo + 760 } G xY [.ref (G.2.2.1 14), .int a] σ r τ) (hkO : ∀ {a : Int32} {σ τ : HS} {r : Int32}, kO a σ = some (r, τ) → MI (xE adK adV tb) l yX2_readOne wsX2_readOne { frames := fr + 10, cells := 0, slots := 0, locals := lo + 600 } G xY [.ref (G.2.2.1 14), .int a] σ r τ) (hG : GX G xY) (hO0 : Ob G xY 14 2) (h : c_X2_readOne kF kN kO p1 σ = some (r0, τ)) : MI (xE adK adV tb) l yX2_readOne wsX2_readOne { frames := fr + 20 + 10, cells := 0, slots := 0, locals := lo + 900 + 600 } G xY [.ref (G.2.2.1 14), .int p1] σ r0 τ :=
  MI.of RX2 (by decide) rfl rfl (Nat.le_of_ble_eq_true rfl) rfl rfl (fun p e s m below meth c hC => w_X2_readOne hkF hkN hkO hG hO0 hC h)
def c_X2_readTerm_8 (kF : Int32 → HS → Option (Int32 × HS)) (kN : Int32 → HS → Option (Int32 × HS)) (kO : Int32 → HS → Option (Int32 × HS)) : Nat → Int32 → Int32 → Int32 → HS → Option (Int32 × HS)
  | 0, _, _, _, _ => none
  | n + 1, x1, x2, x3, σ => (if 160 ≤ x3 then (if isz x2 = true then (some (x2, σ)) else none) else (if x2 = 0 then (if isz x2 = true then (some (x2, σ)) else none) else (if (gI σ 14 2) = 10017 then (bi1 (c_X2_take σ) (fun s11 => (bi2 (c_X2_readOne kF kN kO x1 s11) (fun r14 s13 => (mr (gR s13 14 1) (fun j16 => (bi1 (c_X6_add j16 10017 s13) (fun s19 => (c_X2_readTerm_8 kF kN kO n x1 r14 (x3 + 1) s19))))))))) else (if isz x2 = true then (some (x2, σ)) else none))))
set_option maxHeartbeats 4000000 in
set_option maxRecDepth 100000 in
theorem w_X2_readTerm_8 {adK adV : Nat → Nat} {tb : Nat} {p : Program} {l : Launch} {e : Env} {s : State} {m : MethodId} {args : Array Value} {below : List Frame} {meth : Method} {c : Code} {A : Nat → Prop} {G : WD} {fr lo : Nat} {kF : Int32 → HS → Option (Int32 × HS)} {kN : Int32 → HS → Option (Int32 × HS)} {kO : Int32 → HS → Option (Int32 × HS)} {r0 : Int32} {τ : HS}  (hkF : ∀ {a : Int32} {σ τ : HS} {r : Int32}, kF a σ = some (r, τ) → MI (xE adK adV tb) l yX2_readFormula wsX2_readFormula { frames := fr + 16, cells := 0, slots := 0, locals := lo + 840 } G xY [.ref (G.2.2.1 14), .int a] σ r τ) (hkN : ∀ {a : Int32} {σ τ : HS} {r : Int32}, kN a σ = some (r, τ) → MI (xE adK adV tb) l yX2_readNot wsX2_readNot { frames := fr + 14, cells := 0, slots := 0, locals := lo + 760 } G xY [.ref (G.2.2.1 14), .int a] σ r τ) (hkO : ∀ {a : Int32} {σ τ : HS} {r : Int32}, kO a σ = some (r, τ) → MI (xE adK adV tb) l yX2_readOne wsX2_readOne { frames := fr + 10, cells := 0, slots := 0, locals := lo + 600 } G xY [.ref (G.2.2.1 14), .int a] σ r τ) (hG : GX G xY) (hO0 : Ob G xY 14 2) (hC : Cx (xE adK adV tb) G.1 G.2.1 xY cX2_readTerm 4 (some .boolean) RX2 wsX2_readTerm p s m args meth c A)  : ∀ (n : Nat) (x1 : Int32) (x2 : Int32) (x3 : Int32) (σ : HS), c_X2_readTerm_8 kF kN kO n x1 x2 x3 σ = some (r0, τ) → V p l e { frames := fr + 20 + 11, cells := 0, slots := 0, locals := lo + 900 + 640 } s m args below meth c 4 A G xY 0 0 (MQ below (QI G xY A r0 τ) args s 0 0 A) σ 8 [(0, .ref (G.2.2.1 14)), (1, .int x1), (2, .int x2), (3, .int x3)] [] := by
  intro n
  induction n with
  | zero => intro x1 x2 x3 σ h; exact nof h
  | succ n ih =>
    intro x1 x2 x3 σ h
    rw [c_X2_readTerm_8] at h
    refine v_iload_n hC dX2_readTerm_8 3 rfl ?_
    refine v_sipush (v := 160) hC dX2_readTerm_9 (by decide) ?_
    refine v_icmp_ge (tgt := 55) hC dX2_readTerm_12 (by decide) (fun c_4 => ?_) (fun c_4 => ?_)
    · replace h := ift c_4 h
      refine v_iload_n hC dX2_readTerm_55 2 rfl ?_
      obtain ⟨g_5, h⟩ := gd h
      exact v_zret hC rfl (isz_n g_5) dX2_readTerm_56 h
    · replace h := ifn c_4 h
      refine v_iload_n hC dX2_readTerm_15 2 rfl ?_
      refine v_if_eq (tgt := 55) hC dX2_readTerm_16 (by decide) (fun c_6 => ?_) (fun c_6 => ?_)
      · replace h := ift c_6 h
        refine v_iload_n hC dX2_readTerm_55 2 rfl ?_
        obtain ⟨g_7, h⟩ := gd h
        exact v_zret hC rfl (isz_n g_7) dX2_readTerm_56 h
      · replace h := ifn c_6 h
        refine v_aload_n hC dX2_readTerm_19 0 rfl ?_
        refine v_get (C := RX2) (T := TX2) (N := 5) (ci := 2) (k := 2) (v := .int (gI σ 14 2)) hC hO0 hi_X2_readTerm_X2 rfl (by decide) (by decide) rfl rfl fl37_X2_readTerm dX2_readTerm_20 rfl ?_
        refine v_sipush (v := 10017) hC dX2_readTerm_23 (by decide) ?_
        refine v_icmp_ne (tgt := 55) hC dX2_readTerm_26 (by decide) (fun c_8 => ?_) (fun c_8 => ?_)
        · replace h := ifn c_8 h
          refine v_iload_n hC dX2_readTerm_55 2 rfl ?_
          obtain ⟨g_9, h⟩ := gd h
          exact v_zret hC rfl (isz_n g_9) dX2_readTerm_56 h
        · replace h := ift c_8 h
          refine v_aload_n hC dX2_readTerm_29 0 rfl ?_
          obtain ⟨s11, hc_10, h⟩ := bd1 h
          refine v_callVV hC xE_ok (n := 0) (As := []) (k_X2_take l hG (hO0) hc_10) (cwV 0 hC.1.2.2.2.2 gX2_readTerm_X2_take rfl rfl rfl (by decide +kernel) ⟨(by first | omega | (dsimp only; omega) | (dsimp only [rmX2_take]; omega)), (by first | omega | (dsimp only; omega) | (dsimp only [rmX2_take]; omega))⟩) hO0 (by decide) rfl rfl rfl (Nat.le_of_ble_eq_true rfl) ⟨Nat.zero_le _, Nat.zero_le _⟩ dX2_readTerm_30 rfl ?_
          refine v_aload_n hC dX2_readTerm_33 0 rfl ?_
          refine v_iload_n hC dX2_readTerm_34 1 rfl ?_
          obtain ⟨r14, s13, hc_12, h⟩ := bd2 h
          refine v_callVI hC xE_ok (n := 1) (As := [.int x1]) (k_X2_readOne l hkF hkN hkO hG (hO0) hc_12) (cwV 1 hC.1.2.2.2.2 gX2_readTerm_X2_readOne rfl rfl rfl (by decide +kernel) ⟨(by first | omega | (dsimp only; omega)), (by first | omega | (dsimp only; omega))⟩) hO0 (by decide) rfl rfl rfl (Nat.le_of_ble_eq_true rfl) ⟨Nat.zero_le _, Nat.zero_le _⟩ dX2_readTerm_35 rfl ?_
          refine v_istore_n (L' := [(0, .ref (G.2.2.1 14)), (1, .int x1), (2, .int r14), (3, .int x3)]) hC dX2_readTerm_38 (by decide) [1, 2, 0, 3] rfl ?_
          refine v_aload_n hC dX2_readTerm_39 0 rfl ?_
          refine v_wt (fun hw_15 => ?_)
          refine v_get (C := RX2) (T := TX2) (N := 5) (ci := 2) (k := 1) (v := rv G.2.2.1 (gR s13 14 1)) hC hO0 hi_X2_readTerm_X2 rfl (by decide) (by decide) rfl rfl fl15_X2_readTerm dX2_readTerm_40 rfl ?_
          refine v_sipush (v := 10017) hC dX2_readTerm_43 (by decide) ?_
          obtain ⟨j16, hj17, h⟩ := mrd h
          rw [hj17]
          rw [rv_s]
          obtain ⟨s19, hc_18, h⟩ := bd1 h
          refine v_callVV hC xE_ok (n := 1) (As := [.int 10017]) (k_X6_add l hG ((show Ob G xY j16 6 from (fun j hj => wt_ob hw_15 hO0 hj) j16 hj17)) hc_18) (cwV 1 hC.1.2.2.2.2 gX2_readTerm_X6_add rfl rfl rfl (by decide +kernel) ⟨(by first | omega | (dsimp only; omega) | (dsimp only [rmX6_add]; omega)), (by first | omega | (dsimp only; omega) | (dsimp only [rmX6_add]; omega))⟩) (show Ob G xY j16 6 from (fun j hj => wt_ob hw_15 hO0 hj) j16 hj17) (by decide) rfl rfl rfl (Nat.le_of_ble_eq_true rfl) ⟨Nat.zero_le _, Nat.zero_le _⟩ dX2_readTerm_46 rfl ?_
          refine v_iinc (v := (x3 + 1)) (L' := [(0, .ref (G.2.2.1 14)), (1, .int x1), (2, .int r14), (3, .int (x3 + 1))]) hC dX2_readTerm_49 3 rfl rfl (by decide) [1, 2, 3, 0] rfl ?_
          refine v_goto (tgt := 8) hC dX2_readTerm_52 (by decide) ?_
          exact ih _ _ _ _ h
def c_X2_readTerm (kF : Int32 → HS → Option (Int32 × HS)) (kN : Int32 → HS → Option (Int32 × HS)) (kO : Int32 → HS → Option (Int32 × HS)) (p1 : Int32) (σ : HS) : Option (Int32 × HS) := (bi2 (c_X2_readOne kF kN kO p1 σ) (fun r3 s2 => (c_X2_readTerm_8 kF kN kO FU p1 r3 0 s2)))
set_option maxHeartbeats 4000000 in
set_option maxRecDepth 100000 in
theorem w_X2_readTerm {adK adV : Nat → Nat} {tb : Nat} {p : Program} {l : Launch} {e : Env} {s : State} {m : MethodId} {args : Array Value} {below : List Frame} {meth : Method} {c : Code} {A : Nat → Prop} {G : WD} {fr lo : Nat} {kF : Int32 → HS → Option (Int32 × HS)} {kN : Int32 → HS → Option (Int32 × HS)} {kO : Int32 → HS → Option (Int32 × HS)} {r0 : Int32} {τ : HS} {p1 : Int32} {σ : HS} (hkF : ∀ {a : Int32} {σ τ : HS} {r : Int32}, kF a σ = some (r, τ) → MI (xE adK adV tb) l yX2_readFormula wsX2_readFormula { frames := fr + 16, cells := 0, slots := 0, locals := lo + 840 } G xY [.ref (G.2.2.1 14), .int a] σ r τ) (hkN : ∀ {a : Int32} {σ τ : HS} {r : Int32}, kN a σ = some (r, τ) → MI (xE adK adV tb) l yX2_readNot wsX2_readNot { frames := fr + 14, cells := 0, slots := 0, locals := lo + 760 } G xY [.ref (G.2.2.1 14), .int a] σ r τ) (hkO : ∀ {a : Int32} {σ τ : HS} {r : Int32}, kO a σ = some (r, τ) → MI (xE adK adV tb) l yX2_readOne wsX2_readOne { frames := fr + 10, cells := 0, slots := 0, locals := lo + 600 } G xY [.ref (G.2.2.1 14), .int a] σ r τ) (hG : GX G xY) (hO0 : Ob G xY 14 2) (hC : Cx (xE adK adV tb) G.1 G.2.1 xY cX2_readTerm 4 (some .boolean) RX2 wsX2_readTerm p s m args meth c A) (h : c_X2_readTerm kF kN kO p1 σ = some (r0, τ)) : V p l e { frames := fr + 20 + 11, cells := 0, slots := 0, locals := lo + 900 + 640 } s m args below meth c 4 A G xY 0 0 (MQ below (QI G xY A r0 τ) args s 0 0 A) σ 0 [(0, .ref (G.2.2.1 14)), (1, .int p1)] [] := by
  rw [c_X2_readTerm] at h
  refine v_aload_n hC dX2_readTerm_0 0 rfl ?_
  refine v_iload_n hC dX2_readTerm_1 1 rfl ?_
  obtain ⟨r3, s2, hc_1, h⟩ := bd2 h
  refine v_callVI hC xE_ok (n := 1) (As := [.int p1]) (k_X2_readOne l hkF hkN hkO hG (hO0) hc_1) (cwV 1 hC.1.2.2.2.2 gX2_readTerm_X2_readOne rfl rfl rfl (by decide +kernel) ⟨(by first | omega | (dsimp only; omega)), (by first | omega | (dsimp only; omega))⟩) hO0 (by decide) rfl rfl rfl (Nat.le_of_ble_eq_true rfl) ⟨Nat.zero_le _, Nat.zero_le _⟩ dX2_readTerm_2 rfl ?_
  refine v_istore_n (L' := [(0, .ref (G.2.2.1 14)), (1, .int p1), (2, .int r3)]) hC dX2_readTerm_5 (by decide) [1, 2, 0] rfl ?_
  refine v_iconst (v := 0) hC dX2_readTerm_6 (by decide) ?_
  refine v_istore_n (L' := [(0, .ref (G.2.2.1 14)), (1, .int p1), (2, .int r3), (3, .int 0)]) hC dX2_readTerm_7 (by decide) [1, 2, 3, 0] rfl ?_
  exact w_X2_readTerm_8 hkF hkN hkO hG (hO0) hC FU _ _ _ _ h
theorem k_X2_readTerm {adK adV : Nat → Nat} {tb : Nat} (l : Launch) {G : WD} {fr lo : Nat} {kF : Int32 → HS → Option (Int32 × HS)} {kN : Int32 → HS → Option (Int32 × HS)} {kO : Int32 → HS → Option (Int32 × HS)} {r0 : Int32} {τ : HS} {p1 : Int32} {σ : HS} (hkF : ∀ {a : Int32} {σ τ : HS} {r : Int32}, kF a σ = some (r, τ) → MI (xE adK adV tb) l yX2_readFormula wsX2_readFormula { frames := fr + 16, cells := 0, slots := 0, locals := lo + 840 } G xY [.ref (G.2.2.1 14), .int a] σ r τ) (hkN : ∀ {a : Int32} {σ τ : HS} {r : Int32}, kN a σ = some (r, τ) → MI (xE adK adV tb) l yX2_readNot wsX2_readNot { frames := fr + 14, cells := 0, slots := 0, locals := lo + 760 } G xY [.ref (G.2.2.1 14), .int a] σ r τ) (hkO : ∀ {a : Int32} {σ τ : HS} {r : Int32}, kO a σ = some (r, τ) → MI (xE adK adV tb) l yX2_readOne wsX2_readOne { frames := fr + 10, cells := 0, slots := 0, locals := lo + 600 } G xY [.ref (G.2.2.1 14), .int a] σ r τ) (hG : GX G xY) (hO0 : Ob G xY 14 2) (h : c_X2_readTerm kF kN kO p1 σ = some (r0, τ)) : MI (xE adK adV tb) l yX2_readTerm wsX2_readTerm { frames := fr + 20 + 11, cells := 0, slots := 0, locals := lo + 900 + 640 } G xY [.ref (G.2.2.1 14), .int p1] σ r0 τ :=
  MI.of RX2 (by decide) rfl rfl (Nat.le_of_ble_eq_true rfl) rfl rfl (fun p e s m below meth c hC => w_X2_readTerm hkF hkN hkO hG hO0 hC h)
def c_X2_readSum_39 (kF : Int32 → HS → Option (Int32 × HS)) (kN : Int32 → HS → Option (Int32 × HS)) (kO : Int32 → HS → Option (Int32 × HS)) (k8 : Int32 → Int32 → Int32 → HS → Option (Int32 × HS)) (x1 : Int32) (x3 : Int32) (σ : HS) : Option (Int32 × HS) := (bi1 (c_X2_take σ) (fun s12 => (bi2 (c_X2_readTerm kF kN kO x1 s12) (fun r15 s14 => (mr (gR s14 14 1) (fun j17 => (bi1 (c_X6_add j17 (gI σ 14 2) s14) (fun s20 => (k8 x1 r15 (x3 + 1) s20)))))))))
set_option maxHeartbeats 4000000 in
set_option maxRecDepth 100000 in
theorem w_X2_readSum_39 {adK adV : Nat → Nat} {tb : Nat} {p : Program} {l : Launch} {e : Env} {s : State} {m : MethodId} {args : Array Value} {below : List Frame} {meth : Method} {c : Code} {A : Nat → Prop} {G : WD} {fr lo : Nat} {kF : Int32 → HS → Option (Int32 × HS)} {kN : Int32 → HS → Option (Int32 × HS)} {kO : Int32 → HS → Option (Int32 × HS)} {r0 : Int32} {τ : HS}  {k8 : Int32 → Int32 → Int32 → HS → Option (Int32 × HS)} {x1 : Int32} {x3 : Int32} {σ : HS} (hkF : ∀ {a : Int32} {σ τ : HS} {r : Int32}, kF a σ = some (r, τ) → MI (xE adK adV tb) l yX2_readFormula wsX2_readFormula { frames := fr + 16, cells := 0, slots := 0, locals := lo + 840 } G xY [.ref (G.2.2.1 14), .int a] σ r τ) (hkN : ∀ {a : Int32} {σ τ : HS} {r : Int32}, kN a σ = some (r, τ) → MI (xE adK adV tb) l yX2_readNot wsX2_readNot { frames := fr + 14, cells := 0, slots := 0, locals := lo + 760 } G xY [.ref (G.2.2.1 14), .int a] σ r τ) (hkO : ∀ {a : Int32} {σ τ : HS} {r : Int32}, kO a σ = some (r, τ) → MI (xE adK adV tb) l yX2_readOne wsX2_readOne { frames := fr + 10, cells := 0, slots := 0, locals := lo + 600 } G xY [.ref (G.2.2.1 14), .int a] σ r τ) (hG : GX G xY) (hO0 : Ob G xY 14 2) (hC : Cx (xE adK adV tb) G.1 G.2.1 xY cX2_readSum 5 (some .boolean) RX2 wsX2_readSum p s m args meth c A) (hk8 : ∀ (x1 : Int32) (x2 : Int32) (x3 : Int32) (σ : HS), k8 x1 x2 x3 σ = some (r0, τ) → V p l e { frames := fr + 20 + 12, cells := 0, slots := 0, locals := lo + 900 + 680 } s m args below meth c 5 A G xY 0 0 (MQ below (QI G xY A r0 τ) args s 0 0 A) σ 8 [(0, .ref (G.2.2.1 14)), (1, .int x1), (2, .int x2), (3, .int x3)] []) (h : c_X2_readSum_39 kF kN kO k8 x1 x3 σ = some (r0, τ)) : V p l e { frames := fr + 20 + 12, cells := 0, slots := 0, locals := lo + 900 + 680 } s m args below meth c 5 A G xY 0 0 (MQ below (QI G xY A r0 τ) args s 0 0 A) σ 39 [(0, .ref (G.2.2.1 14)), (1, .int x1), (3, .int x3)] [] := by
  rw [c_X2_readSum_39] at h
  refine v_aload_n hC dX2_readSum_39 0 rfl ?_
  refine v_get (C := RX2) (T := TX2) (N := 5) (ci := 2) (k := 2) (v := .int (gI σ 14 2)) hC hO0 hi_X2_readSum_X2 rfl (by decide) (by decide) rfl rfl fl37_X2_readSum dX2_readSum_40 rfl ?_
  refine v_istore (L' := [(0, .ref (G.2.2.1 14)), (1, .int x1), (3, .int x3), (4, .int (gI σ 14 2))]) hC dX2_readSum_43 (by decide) [1, 2, 3, 0] rfl ?_
  refine v_aload_n hC dX2_readSum_45 0 rfl ?_
  obtain ⟨s12, hc_11, h⟩ := bd1 h
  refine v_callVV hC xE_ok (n := 0) (As := []) (k_X2_take l hG (hO0) hc_11) (cwV 0 hC.1.2.2.2.2 gX2_readSum_X2_take rfl rfl rfl (by decide +kernel) ⟨(by first | omega | (dsimp only; omega) | (dsimp only [rmX2_take]; omega)), (by first | omega | (dsimp only; omega) | (dsimp only [rmX2_take]; omega))⟩) hO0 (by decide) rfl rfl rfl (Nat.le_of_ble_eq_true rfl) ⟨Nat.zero_le _, Nat.zero_le _⟩ dX2_readSum_46 rfl ?_
  refine v_aload_n hC dX2_readSum_49 0 rfl ?_
  refine v_iload_n hC dX2_readSum_50 1 rfl ?_
  obtain ⟨r15, s14, hc_13, h⟩ := bd2 h
  refine v_callVI hC xE_ok (n := 1) (As := [.int x1]) (k_X2_readTerm l hkF hkN hkO hG (hO0) hc_13) (cwV 1 hC.1.2.2.2.2 gX2_readSum_X2_readTerm rfl rfl rfl (by decide +kernel) ⟨(by first | omega | (dsimp only; omega)), (by first | omega | (dsimp only; omega))⟩) hO0 (by decide) rfl rfl rfl (Nat.le_of_ble_eq_true rfl) ⟨Nat.zero_le _, Nat.zero_le _⟩ dX2_readSum_51 rfl ?_
  refine v_istore_n (L' := [(0, .ref (G.2.2.1 14)), (1, .int x1), (2, .int r15), (3, .int x3), (4, .int (gI σ 14 2))]) hC dX2_readSum_54 (by decide) [1, 2, 0, 3, 4] rfl ?_
  refine v_aload_n hC dX2_readSum_55 0 rfl ?_
  refine v_wt (fun hw_16 => ?_)
  refine v_get (C := RX2) (T := TX2) (N := 5) (ci := 2) (k := 1) (v := rv G.2.2.1 (gR s14 14 1)) hC hO0 hi_X2_readSum_X2 rfl (by decide) (by decide) rfl rfl fl15_X2_readSum dX2_readSum_56 rfl ?_
  refine v_iload hC dX2_readSum_59 4 rfl ?_
  obtain ⟨j17, hj18, h⟩ := mrd h
  rw [hj18]
  rw [rv_s]
  obtain ⟨s20, hc_19, h⟩ := bd1 h
  refine v_callVV hC xE_ok (n := 1) (As := [.int (gI σ 14 2)]) (k_X6_add l hG ((show Ob G xY j17 6 from (fun j hj => wt_ob hw_16 hO0 hj) j17 hj18)) hc_19) (cwV 1 hC.1.2.2.2.2 gX2_readSum_X6_add rfl rfl rfl (by decide +kernel) ⟨(by first | omega | (dsimp only; omega) | (dsimp only [rmX6_add]; omega)), (by first | omega | (dsimp only; omega) | (dsimp only [rmX6_add]; omega))⟩) (show Ob G xY j17 6 from (fun j hj => wt_ob hw_16 hO0 hj) j17 hj18) (by decide) rfl rfl rfl (Nat.le_of_ble_eq_true rfl) ⟨Nat.zero_le _, Nat.zero_le _⟩ dX2_readSum_61 rfl ?_
  refine v_iinc (v := (x3 + 1)) (L' := [(0, .ref (G.2.2.1 14)), (1, .int x1), (2, .int r15), (3, .int (x3 + 1)), (4, .int (gI σ 14 2))]) hC dX2_readSum_64 3 rfl rfl (by decide) [1, 2, 3, 0, 4] rfl ?_
  refine v_goto (tgt := 8) hC dX2_readSum_67 (by decide) ?_
  refine V.sub (L' := [(0, .ref (G.2.2.1 14)), (1, .int x1), (2, .int r15), (3, .int (x3 + 1))]) [0, 1, 2, 3] rfl ?_
  exact hk8 _ _ _ _ h
def c_X2_readSum_8 (kF : Int32 → HS → Option (Int32 × HS)) (kN : Int32 → HS → Option (Int32 × HS)) (kO : Int32 → HS → Option (Int32 × HS)) : Nat → Int32 → Int32 → Int32 → HS → Option (Int32 × HS)
  | 0, _, _, _, _ => none
  | n + 1, x1, x2, x3, σ => (if 160 ≤ x3 then (if isz x2 = true then (some (x2, σ)) else none) else (if x2 = 0 then (if isz x2 = true then (some (x2, σ)) else none) else (if (gI σ 14 2) = 10015 then (c_X2_readSum_39 kF kN kO (fun z0 z1 z2 z3 => c_X2_readSum_8 kF kN kO n z0 z1 z2 z3) x1 x3 σ) else (if (gI σ 14 2) = 10016 then (c_X2_readSum_39 kF kN kO (fun z0 z1 z2 z3 => c_X2_readSum_8 kF kN kO n z0 z1 z2 z3) x1 x3 σ) else (if isz x2 = true then (some (x2, σ)) else none)))))
set_option maxHeartbeats 4000000 in
set_option maxRecDepth 100000 in
theorem w_X2_readSum_8 {adK adV : Nat → Nat} {tb : Nat} {p : Program} {l : Launch} {e : Env} {s : State} {m : MethodId} {args : Array Value} {below : List Frame} {meth : Method} {c : Code} {A : Nat → Prop} {G : WD} {fr lo : Nat} {kF : Int32 → HS → Option (Int32 × HS)} {kN : Int32 → HS → Option (Int32 × HS)} {kO : Int32 → HS → Option (Int32 × HS)} {r0 : Int32} {τ : HS}  (hkF : ∀ {a : Int32} {σ τ : HS} {r : Int32}, kF a σ = some (r, τ) → MI (xE adK adV tb) l yX2_readFormula wsX2_readFormula { frames := fr + 16, cells := 0, slots := 0, locals := lo + 840 } G xY [.ref (G.2.2.1 14), .int a] σ r τ) (hkN : ∀ {a : Int32} {σ τ : HS} {r : Int32}, kN a σ = some (r, τ) → MI (xE adK adV tb) l yX2_readNot wsX2_readNot { frames := fr + 14, cells := 0, slots := 0, locals := lo + 760 } G xY [.ref (G.2.2.1 14), .int a] σ r τ) (hkO : ∀ {a : Int32} {σ τ : HS} {r : Int32}, kO a σ = some (r, τ) → MI (xE adK adV tb) l yX2_readOne wsX2_readOne { frames := fr + 10, cells := 0, slots := 0, locals := lo + 600 } G xY [.ref (G.2.2.1 14), .int a] σ r τ) (hG : GX G xY) (hO0 : Ob G xY 14 2) (hC : Cx (xE adK adV tb) G.1 G.2.1 xY cX2_readSum 5 (some .boolean) RX2 wsX2_readSum p s m args meth c A)  : ∀ (n : Nat) (x1 : Int32) (x2 : Int32) (x3 : Int32) (σ : HS), c_X2_readSum_8 kF kN kO n x1 x2 x3 σ = some (r0, τ) → V p l e { frames := fr + 20 + 12, cells := 0, slots := 0, locals := lo + 900 + 680 } s m args below meth c 5 A G xY 0 0 (MQ below (QI G xY A r0 τ) args s 0 0 A) σ 8 [(0, .ref (G.2.2.1 14)), (1, .int x1), (2, .int x2), (3, .int x3)] [] := by
  intro n
  induction n with
  | zero => intro x1 x2 x3 σ h; exact nof h
  | succ n ih =>
    intro x1 x2 x3 σ h
    rw [c_X2_readSum_8] at h
    refine v_iload_n hC dX2_readSum_8 3 rfl ?_
    refine v_sipush (v := 160) hC dX2_readSum_9 (by decide) ?_
    refine v_icmp_ge (tgt := 70) hC dX2_readSum_12 (by decide) (fun c_4 => ?_) (fun c_4 => ?_)
    · replace h := ift c_4 h
      refine v_iload_n hC dX2_readSum_70 2 rfl ?_
      obtain ⟨g_5, h⟩ := gd h
      exact v_zret hC rfl (isz_n g_5) dX2_readSum_71 h
    · replace h := ifn c_4 h
      refine v_iload_n hC dX2_readSum_15 2 rfl ?_
      refine v_if_eq (tgt := 70) hC dX2_readSum_16 (by decide) (fun c_6 => ?_) (fun c_6 => ?_)
      · replace h := ift c_6 h
        refine v_iload_n hC dX2_readSum_70 2 rfl ?_
        obtain ⟨g_7, h⟩ := gd h
        exact v_zret hC rfl (isz_n g_7) dX2_readSum_71 h
      · replace h := ifn c_6 h
        refine v_aload_n hC dX2_readSum_19 0 rfl ?_
        refine v_get (C := RX2) (T := TX2) (N := 5) (ci := 2) (k := 2) (v := .int (gI σ 14 2)) hC hO0 hi_X2_readSum_X2 rfl (by decide) (by decide) rfl rfl fl37_X2_readSum dX2_readSum_20 rfl ?_
        refine v_sipush (v := 10015) hC dX2_readSum_23 (by decide) ?_
        refine v_icmp_eq (tgt := 39) hC dX2_readSum_26 (by decide) (fun c_8 => ?_) (fun c_8 => ?_)
        · replace h := ift c_8 h
          refine V.sub (L' := [(0, .ref (G.2.2.1 14)), (1, .int x1), (3, .int x3)]) [0, 1, 3] rfl ?_
          exact w_X2_readSum_39 hkF hkN hkO hG (hO0) hC (fun _ _ _ _ h => ih _ _ _ _ h) h
        · replace h := ifn c_8 h
          refine v_aload_n hC dX2_readSum_29 0 rfl ?_
          refine v_get (C := RX2) (T := TX2) (N := 5) (ci := 2) (k := 2) (v := .int (gI σ 14 2)) hC hO0 hi_X2_readSum_X2 rfl (by decide) (by decide) rfl rfl fl37_X2_readSum dX2_readSum_30 rfl ?_
          refine v_sipush (v := 10016) hC dX2_readSum_33 (by decide) ?_
          refine v_icmp_ne (tgt := 70) hC dX2_readSum_36 (by decide) (fun c_9 => ?_) (fun c_9 => ?_)
          · replace h := ifn c_9 h
            refine v_iload_n hC dX2_readSum_70 2 rfl ?_
            obtain ⟨g_10, h⟩ := gd h
            exact v_zret hC rfl (isz_n g_10) dX2_readSum_71 h
          · replace h := ift c_9 h
            refine V.sub (L' := [(0, .ref (G.2.2.1 14)), (1, .int x1), (3, .int x3)]) [0, 1, 3] rfl ?_
            exact w_X2_readSum_39 hkF hkN hkO hG (hO0) hC (fun _ _ _ _ h => ih _ _ _ _ h) h
def c_X2_readSum (kF : Int32 → HS → Option (Int32 × HS)) (kN : Int32 → HS → Option (Int32 × HS)) (kO : Int32 → HS → Option (Int32 × HS)) (p1 : Int32) (σ : HS) : Option (Int32 × HS) := (bi2 (c_X2_readTerm kF kN kO p1 σ) (fun r3 s2 => (c_X2_readSum_8 kF kN kO FU p1 r3 0 s2)))
set_option maxHeartbeats 4000000 in
set_option maxRecDepth 100000 in
theorem w_X2_readSum {adK adV : Nat → Nat} {tb : Nat} {p : Program} {l : Launch} {e : Env} {s : State} {m : MethodId} {args : Array Value} {below : List Frame} {meth : Method} {c : Code} {A : Nat → Prop} {G : WD} {fr lo : Nat} {kF : Int32 → HS → Option (Int32 × HS)} {kN : Int32 → HS → Option (Int32 × HS)} {kO : Int32 → HS → Option (Int32 × HS)} {r0 : Int32} {τ : HS} {p1 : Int32} {σ : HS} (hkF : ∀ {a : Int32} {σ τ : HS} {r : Int32}, kF a σ = some (r, τ) → MI (xE adK adV tb) l yX2_readFormula wsX2_readFormula { frames := fr + 16, cells := 0, slots := 0, locals := lo + 840 } G xY [.ref (G.2.2.1 14), .int a] σ r τ) (hkN : ∀ {a : Int32} {σ τ : HS} {r : Int32}, kN a σ = some (r, τ) → MI (xE adK adV tb) l yX2_readNot wsX2_readNot { frames := fr + 14, cells := 0, slots := 0, locals := lo + 760 } G xY [.ref (G.2.2.1 14), .int a] σ r τ) (hkO : ∀ {a : Int32} {σ τ : HS} {r : Int32}, kO a σ = some (r, τ) → MI (xE adK adV tb) l yX2_readOne wsX2_readOne { frames := fr + 10, cells := 0, slots := 0, locals := lo + 600 } G xY [.ref (G.2.2.1 14), .int a] σ r τ) (hG : GX G xY) (hO0 : Ob G xY 14 2) (hC : Cx (xE adK adV tb) G.1 G.2.1 xY cX2_readSum 5 (some .boolean) RX2 wsX2_readSum p s m args meth c A) (h : c_X2_readSum kF kN kO p1 σ = some (r0, τ)) : V p l e { frames := fr + 20 + 12, cells := 0, slots := 0, locals := lo + 900 + 680 } s m args below meth c 5 A G xY 0 0 (MQ below (QI G xY A r0 τ) args s 0 0 A) σ 0 [(0, .ref (G.2.2.1 14)), (1, .int p1)] [] := by
  rw [c_X2_readSum] at h
  refine v_aload_n hC dX2_readSum_0 0 rfl ?_
  refine v_iload_n hC dX2_readSum_1 1 rfl ?_
  obtain ⟨r3, s2, hc_1, h⟩ := bd2 h
  refine v_callVI hC xE_ok (n := 1) (As := [.int p1]) (k_X2_readTerm l hkF hkN hkO hG (hO0) hc_1) (cwV 1 hC.1.2.2.2.2 gX2_readSum_X2_readTerm rfl rfl rfl (by decide +kernel) ⟨(by first | omega | (dsimp only; omega)), (by first | omega | (dsimp only; omega))⟩) hO0 (by decide) rfl rfl rfl (Nat.le_of_ble_eq_true rfl) ⟨Nat.zero_le _, Nat.zero_le _⟩ dX2_readSum_2 rfl ?_
  refine v_istore_n (L' := [(0, .ref (G.2.2.1 14)), (1, .int p1), (2, .int r3)]) hC dX2_readSum_5 (by decide) [1, 2, 0] rfl ?_
  refine v_iconst (v := 0) hC dX2_readSum_6 (by decide) ?_
  refine v_istore_n (L' := [(0, .ref (G.2.2.1 14)), (1, .int p1), (2, .int r3), (3, .int 0)]) hC dX2_readSum_7 (by decide) [1, 2, 3, 0] rfl ?_
  exact w_X2_readSum_8 hkF hkN hkO hG (hO0) hC FU _ _ _ _ h
theorem k_X2_readSum {adK adV : Nat → Nat} {tb : Nat} (l : Launch) {G : WD} {fr lo : Nat} {kF : Int32 → HS → Option (Int32 × HS)} {kN : Int32 → HS → Option (Int32 × HS)} {kO : Int32 → HS → Option (Int32 × HS)} {r0 : Int32} {τ : HS} {p1 : Int32} {σ : HS} (hkF : ∀ {a : Int32} {σ τ : HS} {r : Int32}, kF a σ = some (r, τ) → MI (xE adK adV tb) l yX2_readFormula wsX2_readFormula { frames := fr + 16, cells := 0, slots := 0, locals := lo + 840 } G xY [.ref (G.2.2.1 14), .int a] σ r τ) (hkN : ∀ {a : Int32} {σ τ : HS} {r : Int32}, kN a σ = some (r, τ) → MI (xE adK adV tb) l yX2_readNot wsX2_readNot { frames := fr + 14, cells := 0, slots := 0, locals := lo + 760 } G xY [.ref (G.2.2.1 14), .int a] σ r τ) (hkO : ∀ {a : Int32} {σ τ : HS} {r : Int32}, kO a σ = some (r, τ) → MI (xE adK adV tb) l yX2_readOne wsX2_readOne { frames := fr + 10, cells := 0, slots := 0, locals := lo + 600 } G xY [.ref (G.2.2.1 14), .int a] σ r τ) (hG : GX G xY) (hO0 : Ob G xY 14 2) (h : c_X2_readSum kF kN kO p1 σ = some (r0, τ)) : MI (xE adK adV tb) l yX2_readSum wsX2_readSum { frames := fr + 20 + 12, cells := 0, slots := 0, locals := lo + 900 + 680 } G xY [.ref (G.2.2.1 14), .int p1] σ r0 τ :=
  MI.of RX2 (by decide) rfl rfl (Nat.le_of_ble_eq_true rfl) rfl rfl (fun p e s m below meth c hC => w_X2_readSum hkF hkN hkO hG hO0 hC h)
def c_X2_readComparison_30 (kF : Int32 → HS → Option (Int32 × HS)) (kN : Int32 → HS → Option (Int32 × HS)) (kO : Int32 → HS → Option (Int32 × HS)) (x1 : Int32) (σ : HS) : Option (Int32 × HS) := (bi1 (c_X2_take σ) (fun s10 => (bi2 (c_X2_readSum kF kN kO x1 s10) (fun r13 s12 => (mr (gR s12 14 1) (fun j15 => (bi1 (c_X6_add j15 (gI σ 14 2) s12) (fun s18 => (if isz r13 = true then (some (r13, s18)) else none)))))))))
set_option maxHeartbeats 4000000 in
set_option maxRecDepth 100000 in
theorem w_X2_readComparison_30 {adK adV : Nat → Nat} {tb : Nat} {p : Program} {l : Launch} {e : Env} {s : State} {m : MethodId} {args : Array Value} {below : List Frame} {meth : Method} {c : Code} {A : Nat → Prop} {G : WD} {fr lo : Nat} {kF : Int32 → HS → Option (Int32 × HS)} {kN : Int32 → HS → Option (Int32 × HS)} {kO : Int32 → HS → Option (Int32 × HS)} {r0 : Int32} {τ : HS}  {x1 : Int32} {σ : HS} (hkF : ∀ {a : Int32} {σ τ : HS} {r : Int32}, kF a σ = some (r, τ) → MI (xE adK adV tb) l yX2_readFormula wsX2_readFormula { frames := fr + 16, cells := 0, slots := 0, locals := lo + 840 } G xY [.ref (G.2.2.1 14), .int a] σ r τ) (hkN : ∀ {a : Int32} {σ τ : HS} {r : Int32}, kN a σ = some (r, τ) → MI (xE adK adV tb) l yX2_readNot wsX2_readNot { frames := fr + 14, cells := 0, slots := 0, locals := lo + 760 } G xY [.ref (G.2.2.1 14), .int a] σ r τ) (hkO : ∀ {a : Int32} {σ τ : HS} {r : Int32}, kO a σ = some (r, τ) → MI (xE adK adV tb) l yX2_readOne wsX2_readOne { frames := fr + 10, cells := 0, slots := 0, locals := lo + 600 } G xY [.ref (G.2.2.1 14), .int a] σ r τ) (hG : GX G xY) (hO0 : Ob G xY 14 2) (hC : Cx (xE adK adV tb) G.1 G.2.1 xY cX2_readComparison 4 (some .boolean) RX2 wsX2_readComparison p s m args meth c A)  (h : c_X2_readComparison_30 kF kN kO x1 σ = some (r0, τ)) : V p l e { frames := fr + 20 + 13, cells := 0, slots := 0, locals := lo + 900 + 720 } s m args below meth c 4 A G xY 0 0 (MQ below (QI G xY A r0 τ) args s 0 0 A) σ 30 [(0, .ref (G.2.2.1 14)), (1, .int x1)] [] := by
  rw [c_X2_readComparison_30] at h
  refine v_aload_n hC dX2_readComparison_30 0 rfl ?_
  refine v_get (C := RX2) (T := TX2) (N := 5) (ci := 2) (k := 2) (v := .int (gI σ 14 2)) hC hO0 hi_X2_readComparison_X2 rfl (by decide) (by decide) rfl rfl fl37_X2_readComparison dX2_readComparison_31 rfl ?_
  refine v_istore_n (L' := [(0, .ref (G.2.2.1 14)), (1, .int x1), (3, .int (gI σ 14 2))]) hC dX2_readComparison_34 (by decide) [1, 2, 0] rfl ?_
  refine v_aload_n hC dX2_readComparison_35 0 rfl ?_
  obtain ⟨s10, hc_9, h⟩ := bd1 h
  refine v_callVV hC xE_ok (n := 0) (As := []) (k_X2_take l hG (hO0) hc_9) (cwV 0 hC.1.2.2.2.2 gX2_readComparison_X2_take rfl rfl rfl (by decide +kernel) ⟨(by first | omega | (dsimp only; omega) | (dsimp only [rmX2_take]; omega)), (by first | omega | (dsimp only; omega) | (dsimp only [rmX2_take]; omega))⟩) hO0 (by decide) rfl rfl rfl (Nat.le_of_ble_eq_true rfl) ⟨Nat.zero_le _, Nat.zero_le _⟩ dX2_readComparison_36 rfl ?_
  refine v_aload_n hC dX2_readComparison_39 0 rfl ?_
  refine v_iload_n hC dX2_readComparison_40 1 rfl ?_
  obtain ⟨r13, s12, hc_11, h⟩ := bd2 h
  refine v_callVI hC xE_ok (n := 1) (As := [.int x1]) (k_X2_readSum l hkF hkN hkO hG (hO0) hc_11) (cwV 1 hC.1.2.2.2.2 gX2_readComparison_X2_readSum rfl rfl rfl (by decide +kernel) ⟨(by first | omega | (dsimp only; omega)), (by first | omega | (dsimp only; omega))⟩) hO0 (by decide) rfl rfl rfl (Nat.le_of_ble_eq_true rfl) ⟨Nat.zero_le _, Nat.zero_le _⟩ dX2_readComparison_41 rfl ?_
  refine v_istore_n (L' := [(0, .ref (G.2.2.1 14)), (2, .int r13), (3, .int (gI σ 14 2))]) hC dX2_readComparison_44 (by decide) [1, 0, 3] rfl ?_
  refine v_aload_n hC dX2_readComparison_45 0 rfl ?_
  refine v_wt (fun hw_14 => ?_)
  refine v_get (C := RX2) (T := TX2) (N := 5) (ci := 2) (k := 1) (v := rv G.2.2.1 (gR s12 14 1)) hC hO0 hi_X2_readComparison_X2 rfl (by decide) (by decide) rfl rfl fl15_X2_readComparison dX2_readComparison_46 rfl ?_
  refine v_iload_n hC dX2_readComparison_49 2 rfl ?_
  obtain ⟨j15, hj16, h⟩ := mrd h
  rw [hj16]
  rw [rv_s]
  obtain ⟨s18, hc_17, h⟩ := bd1 h
  refine v_callVV hC xE_ok (n := 1) (As := [.int (gI σ 14 2)]) (k_X6_add l hG ((show Ob G xY j15 6 from (fun j hj => wt_ob hw_14 hO0 hj) j15 hj16)) hc_17) (cwV 1 hC.1.2.2.2.2 gX2_readComparison_X6_add rfl rfl rfl (by decide +kernel) ⟨(by first | omega | (dsimp only; omega) | (dsimp only [rmX6_add]; omega)), (by first | omega | (dsimp only; omega) | (dsimp only [rmX6_add]; omega))⟩) (show Ob G xY j15 6 from (fun j hj => wt_ob hw_14 hO0 hj) j15 hj16) (by decide) rfl rfl rfl (Nat.le_of_ble_eq_true rfl) ⟨Nat.zero_le _, Nat.zero_le _⟩ dX2_readComparison_50 rfl ?_
  refine v_iload_n hC dX2_readComparison_53 1 rfl ?_
  obtain ⟨g_19, h⟩ := gd h
  exact v_zret hC rfl (isz_n g_19) dX2_readComparison_54 h
def c_X2_readComparison (kF : Int32 → HS → Option (Int32 × HS)) (kN : Int32 → HS → Option (Int32 × HS)) (kO : Int32 → HS → Option (Int32 × HS)) (p1 : Int32) (σ : HS) : Option (Int32 × HS) := (bi2 (c_X2_readSum kF kN kO p1 σ) (fun r3 s2 => (if r3 = 0 then (if isz r3 = true then (some (r3, s2)) else none) else (if (gI s2 14 2) = 10018 then (c_X2_readComparison_30 kF kN kO p1 s2) else (if (gI s2 14 2) = 10019 then (c_X2_readComparison_30 kF kN kO p1 s2) else (if isz r3 = true then (some (r3, s2)) else none))))))
set_option maxHeartbeats 4000000 in
set_option maxRecDepth 100000 in
theorem w_X2_readComparison {adK adV : Nat → Nat} {tb : Nat} {p : Program} {l : Launch} {e : Env} {s : State} {m : MethodId} {args : Array Value} {below : List Frame} {meth : Method} {c : Code} {A : Nat → Prop} {G : WD} {fr lo : Nat} {kF : Int32 → HS → Option (Int32 × HS)} {kN : Int32 → HS → Option (Int32 × HS)} {kO : Int32 → HS → Option (Int32 × HS)} {r0 : Int32} {τ : HS} {p1 : Int32} {σ : HS} (hkF : ∀ {a : Int32} {σ τ : HS} {r : Int32}, kF a σ = some (r, τ) → MI (xE adK adV tb) l yX2_readFormula wsX2_readFormula { frames := fr + 16, cells := 0, slots := 0, locals := lo + 840 } G xY [.ref (G.2.2.1 14), .int a] σ r τ) (hkN : ∀ {a : Int32} {σ τ : HS} {r : Int32}, kN a σ = some (r, τ) → MI (xE adK adV tb) l yX2_readNot wsX2_readNot { frames := fr + 14, cells := 0, slots := 0, locals := lo + 760 } G xY [.ref (G.2.2.1 14), .int a] σ r τ) (hkO : ∀ {a : Int32} {σ τ : HS} {r : Int32}, kO a σ = some (r, τ) → MI (xE adK adV tb) l yX2_readOne wsX2_readOne { frames := fr + 10, cells := 0, slots := 0, locals := lo + 600 } G xY [.ref (G.2.2.1 14), .int a] σ r τ) (hG : GX G xY) (hO0 : Ob G xY 14 2) (hC : Cx (xE adK adV tb) G.1 G.2.1 xY cX2_readComparison 4 (some .boolean) RX2 wsX2_readComparison p s m args meth c A) (h : c_X2_readComparison kF kN kO p1 σ = some (r0, τ)) : V p l e { frames := fr + 20 + 13, cells := 0, slots := 0, locals := lo + 900 + 720 } s m args below meth c 4 A G xY 0 0 (MQ below (QI G xY A r0 τ) args s 0 0 A) σ 0 [(0, .ref (G.2.2.1 14)), (1, .int p1)] [] := by
  rw [c_X2_readComparison] at h
  refine v_aload_n hC dX2_readComparison_0 0 rfl ?_
  refine v_iload_n hC dX2_readComparison_1 1 rfl ?_
  obtain ⟨r3, s2, hc_1, h⟩ := bd2 h
  refine v_callVI hC xE_ok (n := 1) (As := [.int p1]) (k_X2_readSum l hkF hkN hkO hG (hO0) hc_1) (cwV 1 hC.1.2.2.2.2 gX2_readComparison_X2_readSum rfl rfl rfl (by decide +kernel) ⟨(by first | omega | (dsimp only; omega)), (by first | omega | (dsimp only; omega))⟩) hO0 (by decide) rfl rfl rfl (Nat.le_of_ble_eq_true rfl) ⟨Nat.zero_le _, Nat.zero_le _⟩ dX2_readComparison_2 rfl ?_
  refine v_istore_n (L' := [(0, .ref (G.2.2.1 14)), (1, .int p1), (2, .int r3)]) hC dX2_readComparison_5 (by decide) [1, 2, 0] rfl ?_
  refine v_iload_n hC dX2_readComparison_6 2 rfl ?_
  refine v_if_eq (tgt := 53) hC dX2_readComparison_7 (by decide) (fun c_4 => ?_) (fun c_4 => ?_)
  · replace h := ift c_4 h
    refine v_iload_n hC dX2_readComparison_53 2 rfl ?_
    obtain ⟨g_5, h⟩ := gd h
    exact v_zret hC rfl (isz_n g_5) dX2_readComparison_54 h
  · replace h := ifn c_4 h
    refine v_aload_n hC dX2_readComparison_10 0 rfl ?_
    refine v_get (C := RX2) (T := TX2) (N := 5) (ci := 2) (k := 2) (v := .int (gI s2 14 2)) hC hO0 hi_X2_readComparison_X2 rfl (by decide) (by decide) rfl rfl fl37_X2_readComparison dX2_readComparison_11 rfl ?_
    refine v_sipush (v := 10018) hC dX2_readComparison_14 (by decide) ?_
    refine v_icmp_eq (tgt := 30) hC dX2_readComparison_17 (by decide) (fun c_6 => ?_) (fun c_6 => ?_)
    · replace h := ift c_6 h
      refine V.sub (L' := [(0, .ref (G.2.2.1 14)), (1, .int p1)]) [0, 1] rfl ?_
      exact w_X2_readComparison_30 hkF hkN hkO hG (hO0) hC h
    · replace h := ifn c_6 h
      refine v_aload_n hC dX2_readComparison_20 0 rfl ?_
      refine v_get (C := RX2) (T := TX2) (N := 5) (ci := 2) (k := 2) (v := .int (gI s2 14 2)) hC hO0 hi_X2_readComparison_X2 rfl (by decide) (by decide) rfl rfl fl37_X2_readComparison dX2_readComparison_21 rfl ?_
      refine v_sipush (v := 10019) hC dX2_readComparison_24 (by decide) ?_
      refine v_icmp_ne (tgt := 53) hC dX2_readComparison_27 (by decide) (fun c_7 => ?_) (fun c_7 => ?_)
      · replace h := ifn c_7 h
        refine v_iload_n hC dX2_readComparison_53 2 rfl ?_
        obtain ⟨g_8, h⟩ := gd h
        exact v_zret hC rfl (isz_n g_8) dX2_readComparison_54 h
      · replace h := ift c_7 h
        refine V.sub (L' := [(0, .ref (G.2.2.1 14)), (1, .int p1)]) [0, 1] rfl ?_
        exact w_X2_readComparison_30 hkF hkN hkO hG (hO0) hC h
theorem k_X2_readComparison {adK adV : Nat → Nat} {tb : Nat} (l : Launch) {G : WD} {fr lo : Nat} {kF : Int32 → HS → Option (Int32 × HS)} {kN : Int32 → HS → Option (Int32 × HS)} {kO : Int32 → HS → Option (Int32 × HS)} {r0 : Int32} {τ : HS} {p1 : Int32} {σ : HS} (hkF : ∀ {a : Int32} {σ τ : HS} {r : Int32}, kF a σ = some (r, τ) → MI (xE adK adV tb) l yX2_readFormula wsX2_readFormula { frames := fr + 16, cells := 0, slots := 0, locals := lo + 840 } G xY [.ref (G.2.2.1 14), .int a] σ r τ) (hkN : ∀ {a : Int32} {σ τ : HS} {r : Int32}, kN a σ = some (r, τ) → MI (xE adK adV tb) l yX2_readNot wsX2_readNot { frames := fr + 14, cells := 0, slots := 0, locals := lo + 760 } G xY [.ref (G.2.2.1 14), .int a] σ r τ) (hkO : ∀ {a : Int32} {σ τ : HS} {r : Int32}, kO a σ = some (r, τ) → MI (xE adK adV tb) l yX2_readOne wsX2_readOne { frames := fr + 10, cells := 0, slots := 0, locals := lo + 600 } G xY [.ref (G.2.2.1 14), .int a] σ r τ) (hG : GX G xY) (hO0 : Ob G xY 14 2) (h : c_X2_readComparison kF kN kO p1 σ = some (r0, τ)) : MI (xE adK adV tb) l yX2_readComparison wsX2_readComparison { frames := fr + 20 + 13, cells := 0, slots := 0, locals := lo + 900 + 720 } G xY [.ref (G.2.2.1 14), .int p1] σ r0 τ :=
  MI.of RX2 (by decide) rfl rfl (Nat.le_of_ble_eq_true rfl) rfl rfl (fun p e s m below meth c hC => w_X2_readComparison hkF hkN hkO hG hO0 hC h)
def c_X2_readNot (kF : Int32 → HS → Option (Int32 × HS)) (kN : Int32 → HS → Option (Int32 × HS)) (kO : Int32 → HS → Option (Int32 × HS)) (p1 : Int32) (σ : HS) : Option (Int32 × HS) := (if (gI σ 14 2) = 10011 then (if p1 < 5 then (bi1 (c_X2_take σ) (fun s4 => (bi2 (kN (p1 + 1) s4) (fun r7 s6 => (mr (gR s6 14 1) (fun j9 => (bi1 (c_X6_add j9 10011 s6) (fun s12 => (if isz r7 = true then (some (r7, s12)) else none))))))))) else (some (0, σ))) else (bi2 (c_X2_readComparison kF kN kO p1 σ) (fun r16 s15 => (if isz r16 = true then (some (r16, s15)) else none))))
set_option maxHeartbeats 4000000 in
set_option maxRecDepth 100000 in
theorem w_X2_readNot {adK adV : Nat → Nat} {tb : Nat} {p : Program} {l : Launch} {e : Env} {s : State} {m : MethodId} {args : Array Value} {below : List Frame} {meth : Method} {c : Code} {A : Nat → Prop} {G : WD} {fr lo : Nat} {kF : Int32 → HS → Option (Int32 × HS)} {kN : Int32 → HS → Option (Int32 × HS)} {kO : Int32 → HS → Option (Int32 × HS)} {r0 : Int32} {τ : HS} {p1 : Int32} {σ : HS} (hkF : ∀ {a : Int32} {σ τ : HS} {r : Int32}, kF a σ = some (r, τ) → MI (xE adK adV tb) l yX2_readFormula wsX2_readFormula { frames := fr + 16, cells := 0, slots := 0, locals := lo + 840 } G xY [.ref (G.2.2.1 14), .int a] σ r τ) (hkN : ∀ {a : Int32} {σ τ : HS} {r : Int32}, kN a σ = some (r, τ) → MI (xE adK adV tb) l yX2_readNot wsX2_readNot { frames := fr + 14, cells := 0, slots := 0, locals := lo + 760 } G xY [.ref (G.2.2.1 14), .int a] σ r τ) (hkO : ∀ {a : Int32} {σ τ : HS} {r : Int32}, kO a σ = some (r, τ) → MI (xE adK adV tb) l yX2_readOne wsX2_readOne { frames := fr + 10, cells := 0, slots := 0, locals := lo + 600 } G xY [.ref (G.2.2.1 14), .int a] σ r τ) (hG : GX G xY) (hO0 : Ob G xY 14 2) (hC : Cx (xE adK adV tb) G.1 G.2.1 xY cX2_readNot 3 (some .boolean) RX2 wsX2_readNot p s m args meth c A) (h : c_X2_readNot kF kN kO p1 σ = some (r0, τ)) : V p l e { frames := fr + 20 + 14, cells := 0, slots := 0, locals := lo + 900 + 760 } s m args below meth c 3 A G xY 0 0 (MQ below (QI G xY A r0 τ) args s 0 0 A) σ 0 [(0, .ref (G.2.2.1 14)), (1, .int p1)] [] := by
  rw [c_X2_readNot] at h
  refine v_aload_n hC dX2_readNot_0 0 rfl ?_
  refine v_get (C := RX2) (T := TX2) (N := 5) (ci := 2) (k := 2) (v := .int (gI σ 14 2)) hC hO0 hi_X2_readNot_X2 rfl (by decide) (by decide) rfl rfl fl37_X2_readNot dX2_readNot_1 rfl ?_
  refine v_sipush (v := 10011) hC dX2_readNot_4 (by decide) ?_
  refine v_icmp_eq (tgt := 16) hC dX2_readNot_7 (by decide) (fun c_1 => ?_) (fun c_1 => ?_)
  · replace h := ift c_1 h
    refine v_iload_n hC dX2_readNot_16 1 rfl ?_
    refine v_iconst (v := 5) hC dX2_readNot_17 (by decide) ?_
    refine v_icmp_lt (tgt := 23) hC dX2_readNot_18 (by decide) (fun c_2 => ?_) (fun c_2 => ?_)
    · replace h := ift c_2 h
      refine v_aload_n hC dX2_readNot_23 0 rfl ?_
      obtain ⟨s4, hc_3, h⟩ := bd1 h
      refine v_callVV hC xE_ok (n := 0) (As := []) (k_X2_take l hG (hO0) hc_3) (cwV 0 hC.1.2.2.2.2 gX2_readNot_X2_take rfl rfl rfl (by decide +kernel) ⟨(by first | omega | (dsimp only; omega) | (dsimp only [rmX2_take]; omega)), (by first | omega | (dsimp only; omega) | (dsimp only [rmX2_take]; omega))⟩) hO0 (by decide) rfl rfl rfl (Nat.le_of_ble_eq_true rfl) ⟨Nat.zero_le _, Nat.zero_le _⟩ dX2_readNot_24 rfl ?_
      refine v_aload_n hC dX2_readNot_27 0 rfl ?_
      refine v_iload_n hC dX2_readNot_28 1 rfl ?_
      refine v_iconst (v := 1) hC dX2_readNot_29 (by decide) ?_
      refine v_iadd hC dX2_readNot_30 ?_
      obtain ⟨r7, s6, hc_5, h⟩ := bd2 h
      refine v_callVI hC xE_ok (n := 1) (As := [.int (p1 + 1)]) (hkN hc_5) (cwV 1 hC.1.2.2.2.2 gX2_readNot_X2_readNot rfl rfl rfl (by decide +kernel) ⟨(by first | omega | (dsimp only; omega)), (by first | omega | (dsimp only; omega))⟩) hO0 (by decide) rfl rfl rfl (Nat.le_of_ble_eq_true rfl) ⟨Nat.zero_le _, Nat.zero_le _⟩ dX2_readNot_31 rfl ?_
      refine v_istore_n (L' := [(0, .ref (G.2.2.1 14)), (2, .int r7)]) hC dX2_readNot_34 (by decide) [1, 0] rfl ?_
      refine v_aload_n hC dX2_readNot_35 0 rfl ?_
      refine v_wt (fun hw_8 => ?_)
      refine v_get (C := RX2) (T := TX2) (N := 5) (ci := 2) (k := 1) (v := rv G.2.2.1 (gR s6 14 1)) hC hO0 hi_X2_readNot_X2 rfl (by decide) (by decide) rfl rfl fl15_X2_readNot dX2_readNot_36 rfl ?_
      refine v_sipush (v := 10011) hC dX2_readNot_39 (by decide) ?_
      obtain ⟨j9, hj10, h⟩ := mrd h
      rw [hj10]
      rw [rv_s]
      obtain ⟨s12, hc_11, h⟩ := bd1 h
      refine v_callVV hC xE_ok (n := 1) (As := [.int 10011]) (k_X6_add l hG ((show Ob G xY j9 6 from (fun j hj => wt_ob hw_8 hO0 hj) j9 hj10)) hc_11) (cwV 1 hC.1.2.2.2.2 gX2_readNot_X6_add rfl rfl rfl (by decide +kernel) ⟨(by first | omega | (dsimp only; omega) | (dsimp only [rmX6_add]; omega)), (by first | omega | (dsimp only; omega) | (dsimp only [rmX6_add]; omega))⟩) (show Ob G xY j9 6 from (fun j hj => wt_ob hw_8 hO0 hj) j9 hj10) (by decide) rfl rfl rfl (Nat.le_of_ble_eq_true rfl) ⟨Nat.zero_le _, Nat.zero_le _⟩ dX2_readNot_42 rfl ?_
      refine v_iload_n hC dX2_readNot_45 1 rfl ?_
      obtain ⟨g_13, h⟩ := gd h
      exact v_zret hC rfl (isz_n g_13) dX2_readNot_46 h
    · replace h := ifn c_2 h
      refine v_iconst (v := 0) hC dX2_readNot_21 (by decide) ?_
      exact v_zret hC rfl rfl dX2_readNot_22 h
  · replace h := ifn c_1 h
    refine v_aload_n hC dX2_readNot_10 0 rfl ?_
    refine v_iload_n hC dX2_readNot_11 1 rfl ?_
    obtain ⟨r16, s15, hc_14, h⟩ := bd2 h
    refine v_callVI hC xE_ok (n := 1) (As := [.int p1]) (k_X2_readComparison l hkF hkN hkO hG (hO0) hc_14) (cwV 1 hC.1.2.2.2.2 gX2_readNot_X2_readComparison rfl rfl rfl (by decide +kernel) ⟨(by first | omega | (dsimp only; omega)), (by first | omega | (dsimp only; omega))⟩) hO0 (by decide) rfl rfl rfl (Nat.le_of_ble_eq_true rfl) ⟨Nat.zero_le _, Nat.zero_le _⟩ dX2_readNot_12 rfl ?_
    obtain ⟨g_17, h⟩ := gd h
    exact v_zret hC rfl (isz_n g_17) dX2_readNot_15 h
theorem k_X2_readNot {adK adV : Nat → Nat} {tb : Nat} (l : Launch) {G : WD} {fr lo : Nat} {kF : Int32 → HS → Option (Int32 × HS)} {kN : Int32 → HS → Option (Int32 × HS)} {kO : Int32 → HS → Option (Int32 × HS)} {r0 : Int32} {τ : HS} {p1 : Int32} {σ : HS} (hkF : ∀ {a : Int32} {σ τ : HS} {r : Int32}, kF a σ = some (r, τ) → MI (xE adK adV tb) l yX2_readFormula wsX2_readFormula { frames := fr + 16, cells := 0, slots := 0, locals := lo + 840 } G xY [.ref (G.2.2.1 14), .int a] σ r τ) (hkN : ∀ {a : Int32} {σ τ : HS} {r : Int32}, kN a σ = some (r, τ) → MI (xE adK adV tb) l yX2_readNot wsX2_readNot { frames := fr + 14, cells := 0, slots := 0, locals := lo + 760 } G xY [.ref (G.2.2.1 14), .int a] σ r τ) (hkO : ∀ {a : Int32} {σ τ : HS} {r : Int32}, kO a σ = some (r, τ) → MI (xE adK adV tb) l yX2_readOne wsX2_readOne { frames := fr + 10, cells := 0, slots := 0, locals := lo + 600 } G xY [.ref (G.2.2.1 14), .int a] σ r τ) (hG : GX G xY) (hO0 : Ob G xY 14 2) (h : c_X2_readNot kF kN kO p1 σ = some (r0, τ)) : MI (xE adK adV tb) l yX2_readNot wsX2_readNot { frames := fr + 20 + 14, cells := 0, slots := 0, locals := lo + 900 + 760 } G xY [.ref (G.2.2.1 14), .int p1] σ r0 τ :=
  MI.of RX2 (by decide) rfl rfl (Nat.le_of_ble_eq_true rfl) rfl rfl (fun p e s m below meth c hC => w_X2_readNot hkF hkN hkO hG hO0 hC h)
def c_X2_readAnd_8 (kF : Int32 → HS → Option (Int32 × HS)) (kN : Int32 → HS → Option (Int32 × HS)) (kO : Int32 → HS → Option (Int32 × HS)) : Nat → Int32 → Int32 → Int32 → HS → Option (Int32 × HS)
  | 0, _, _, _, _ => none
  | n + 1, x1, x2, x3, σ => (if 160 ≤ x3 then (if isz x2 = true then (some (x2, σ)) else none) else (if x2 = 0 then (if isz x2 = true then (some (x2, σ)) else none) else (if (gI σ 14 2) = 10010 then (bi1 (c_X2_take σ) (fun s11 => (bi2 (c_X2_readNot kF kN kO x1 s11) (fun r14 s13 => (mr (gR s13 14 1) (fun j16 => (bi1 (c_X6_add j16 10010 s13) (fun s19 => (c_X2_readAnd_8 kF kN kO n x1 r14 (x3 + 1) s19))))))))) else (if isz x2 = true then (some (x2, σ)) else none))))
set_option maxHeartbeats 4000000 in
set_option maxRecDepth 100000 in
theorem w_X2_readAnd_8 {adK adV : Nat → Nat} {tb : Nat} {p : Program} {l : Launch} {e : Env} {s : State} {m : MethodId} {args : Array Value} {below : List Frame} {meth : Method} {c : Code} {A : Nat → Prop} {G : WD} {fr lo : Nat} {kF : Int32 → HS → Option (Int32 × HS)} {kN : Int32 → HS → Option (Int32 × HS)} {kO : Int32 → HS → Option (Int32 × HS)} {r0 : Int32} {τ : HS}  (hkF : ∀ {a : Int32} {σ τ : HS} {r : Int32}, kF a σ = some (r, τ) → MI (xE adK adV tb) l yX2_readFormula wsX2_readFormula { frames := fr + 16, cells := 0, slots := 0, locals := lo + 840 } G xY [.ref (G.2.2.1 14), .int a] σ r τ) (hkN : ∀ {a : Int32} {σ τ : HS} {r : Int32}, kN a σ = some (r, τ) → MI (xE adK adV tb) l yX2_readNot wsX2_readNot { frames := fr + 14, cells := 0, slots := 0, locals := lo + 760 } G xY [.ref (G.2.2.1 14), .int a] σ r τ) (hkO : ∀ {a : Int32} {σ τ : HS} {r : Int32}, kO a σ = some (r, τ) → MI (xE adK adV tb) l yX2_readOne wsX2_readOne { frames := fr + 10, cells := 0, slots := 0, locals := lo + 600 } G xY [.ref (G.2.2.1 14), .int a] σ r τ) (hG : GX G xY) (hO0 : Ob G xY 14 2) (hC : Cx (xE adK adV tb) G.1 G.2.1 xY cX2_readAnd 4 (some .boolean) RX2 wsX2_readAnd p s m args meth c A)  : ∀ (n : Nat) (x1 : Int32) (x2 : Int32) (x3 : Int32) (σ : HS), c_X2_readAnd_8 kF kN kO n x1 x2 x3 σ = some (r0, τ) → V p l e { frames := fr + 20 + 15, cells := 0, slots := 0, locals := lo + 900 + 800 } s m args below meth c 4 A G xY 0 0 (MQ below (QI G xY A r0 τ) args s 0 0 A) σ 8 [(0, .ref (G.2.2.1 14)), (1, .int x1), (2, .int x2), (3, .int x3)] [] := by
  intro n
  induction n with
  | zero => intro x1 x2 x3 σ h; exact nof h
  | succ n ih =>
    intro x1 x2 x3 σ h
    rw [c_X2_readAnd_8] at h
    refine v_iload_n hC dX2_readAnd_8 3 rfl ?_
    refine v_sipush (v := 160) hC dX2_readAnd_9 (by decide) ?_
    refine v_icmp_ge (tgt := 55) hC dX2_readAnd_12 (by decide) (fun c_4 => ?_) (fun c_4 => ?_)
    · replace h := ift c_4 h
      refine v_iload_n hC dX2_readAnd_55 2 rfl ?_
      obtain ⟨g_5, h⟩ := gd h
      exact v_zret hC rfl (isz_n g_5) dX2_readAnd_56 h
    · replace h := ifn c_4 h
      refine v_iload_n hC dX2_readAnd_15 2 rfl ?_
      refine v_if_eq (tgt := 55) hC dX2_readAnd_16 (by decide) (fun c_6 => ?_) (fun c_6 => ?_)
      · replace h := ift c_6 h
        refine v_iload_n hC dX2_readAnd_55 2 rfl ?_
        obtain ⟨g_7, h⟩ := gd h
        exact v_zret hC rfl (isz_n g_7) dX2_readAnd_56 h
      · replace h := ifn c_6 h
        refine v_aload_n hC dX2_readAnd_19 0 rfl ?_
        refine v_get (C := RX2) (T := TX2) (N := 5) (ci := 2) (k := 2) (v := .int (gI σ 14 2)) hC hO0 hi_X2_readAnd_X2 rfl (by decide) (by decide) rfl rfl fl37_X2_readAnd dX2_readAnd_20 rfl ?_
        refine v_sipush (v := 10010) hC dX2_readAnd_23 (by decide) ?_
        refine v_icmp_ne (tgt := 55) hC dX2_readAnd_26 (by decide) (fun c_8 => ?_) (fun c_8 => ?_)
        · replace h := ifn c_8 h
          refine v_iload_n hC dX2_readAnd_55 2 rfl ?_
          obtain ⟨g_9, h⟩ := gd h
          exact v_zret hC rfl (isz_n g_9) dX2_readAnd_56 h
        · replace h := ift c_8 h
          refine v_aload_n hC dX2_readAnd_29 0 rfl ?_
          obtain ⟨s11, hc_10, h⟩ := bd1 h
          refine v_callVV hC xE_ok (n := 0) (As := []) (k_X2_take l hG (hO0) hc_10) (cwV 0 hC.1.2.2.2.2 gX2_readAnd_X2_take rfl rfl rfl (by decide +kernel) ⟨(by first | omega | (dsimp only; omega) | (dsimp only [rmX2_take]; omega)), (by first | omega | (dsimp only; omega) | (dsimp only [rmX2_take]; omega))⟩) hO0 (by decide) rfl rfl rfl (Nat.le_of_ble_eq_true rfl) ⟨Nat.zero_le _, Nat.zero_le _⟩ dX2_readAnd_30 rfl ?_
          refine v_aload_n hC dX2_readAnd_33 0 rfl ?_
          refine v_iload_n hC dX2_readAnd_34 1 rfl ?_
          obtain ⟨r14, s13, hc_12, h⟩ := bd2 h
          refine v_callVI hC xE_ok (n := 1) (As := [.int x1]) (k_X2_readNot l hkF hkN hkO hG (hO0) hc_12) (cwV 1 hC.1.2.2.2.2 gX2_readAnd_X2_readNot rfl rfl rfl (by decide +kernel) ⟨(by first | omega | (dsimp only; omega)), (by first | omega | (dsimp only; omega))⟩) hO0 (by decide) rfl rfl rfl (Nat.le_of_ble_eq_true rfl) ⟨Nat.zero_le _, Nat.zero_le _⟩ dX2_readAnd_35 rfl ?_
          refine v_istore_n (L' := [(0, .ref (G.2.2.1 14)), (1, .int x1), (2, .int r14), (3, .int x3)]) hC dX2_readAnd_38 (by decide) [1, 2, 0, 3] rfl ?_
          refine v_aload_n hC dX2_readAnd_39 0 rfl ?_
          refine v_wt (fun hw_15 => ?_)
          refine v_get (C := RX2) (T := TX2) (N := 5) (ci := 2) (k := 1) (v := rv G.2.2.1 (gR s13 14 1)) hC hO0 hi_X2_readAnd_X2 rfl (by decide) (by decide) rfl rfl fl15_X2_readAnd dX2_readAnd_40 rfl ?_
          refine v_sipush (v := 10010) hC dX2_readAnd_43 (by decide) ?_
          obtain ⟨j16, hj17, h⟩ := mrd h
          rw [hj17]
          rw [rv_s]
          obtain ⟨s19, hc_18, h⟩ := bd1 h
          refine v_callVV hC xE_ok (n := 1) (As := [.int 10010]) (k_X6_add l hG ((show Ob G xY j16 6 from (fun j hj => wt_ob hw_15 hO0 hj) j16 hj17)) hc_18) (cwV 1 hC.1.2.2.2.2 gX2_readAnd_X6_add rfl rfl rfl (by decide +kernel) ⟨(by first | omega | (dsimp only; omega) | (dsimp only [rmX6_add]; omega)), (by first | omega | (dsimp only; omega) | (dsimp only [rmX6_add]; omega))⟩) (show Ob G xY j16 6 from (fun j hj => wt_ob hw_15 hO0 hj) j16 hj17) (by decide) rfl rfl rfl (Nat.le_of_ble_eq_true rfl) ⟨Nat.zero_le _, Nat.zero_le _⟩ dX2_readAnd_46 rfl ?_
          refine v_iinc (v := (x3 + 1)) (L' := [(0, .ref (G.2.2.1 14)), (1, .int x1), (2, .int r14), (3, .int (x3 + 1))]) hC dX2_readAnd_49 3 rfl rfl (by decide) [1, 2, 3, 0] rfl ?_
          refine v_goto (tgt := 8) hC dX2_readAnd_52 (by decide) ?_
          exact ih _ _ _ _ h
def c_X2_readAnd (kF : Int32 → HS → Option (Int32 × HS)) (kN : Int32 → HS → Option (Int32 × HS)) (kO : Int32 → HS → Option (Int32 × HS)) (p1 : Int32) (σ : HS) : Option (Int32 × HS) := (bi2 (c_X2_readNot kF kN kO p1 σ) (fun r3 s2 => (c_X2_readAnd_8 kF kN kO FU p1 r3 0 s2)))
set_option maxHeartbeats 4000000 in
set_option maxRecDepth 100000 in
theorem w_X2_readAnd {adK adV : Nat → Nat} {tb : Nat} {p : Program} {l : Launch} {e : Env} {s : State} {m : MethodId} {args : Array Value} {below : List Frame} {meth : Method} {c : Code} {A : Nat → Prop} {G : WD} {fr lo : Nat} {kF : Int32 → HS → Option (Int32 × HS)} {kN : Int32 → HS → Option (Int32 × HS)} {kO : Int32 → HS → Option (Int32 × HS)} {r0 : Int32} {τ : HS} {p1 : Int32} {σ : HS} (hkF : ∀ {a : Int32} {σ τ : HS} {r : Int32}, kF a σ = some (r, τ) → MI (xE adK adV tb) l yX2_readFormula wsX2_readFormula { frames := fr + 16, cells := 0, slots := 0, locals := lo + 840 } G xY [.ref (G.2.2.1 14), .int a] σ r τ) (hkN : ∀ {a : Int32} {σ τ : HS} {r : Int32}, kN a σ = some (r, τ) → MI (xE adK adV tb) l yX2_readNot wsX2_readNot { frames := fr + 14, cells := 0, slots := 0, locals := lo + 760 } G xY [.ref (G.2.2.1 14), .int a] σ r τ) (hkO : ∀ {a : Int32} {σ τ : HS} {r : Int32}, kO a σ = some (r, τ) → MI (xE adK adV tb) l yX2_readOne wsX2_readOne { frames := fr + 10, cells := 0, slots := 0, locals := lo + 600 } G xY [.ref (G.2.2.1 14), .int a] σ r τ) (hG : GX G xY) (hO0 : Ob G xY 14 2) (hC : Cx (xE adK adV tb) G.1 G.2.1 xY cX2_readAnd 4 (some .boolean) RX2 wsX2_readAnd p s m args meth c A) (h : c_X2_readAnd kF kN kO p1 σ = some (r0, τ)) : V p l e { frames := fr + 20 + 15, cells := 0, slots := 0, locals := lo + 900 + 800 } s m args below meth c 4 A G xY 0 0 (MQ below (QI G xY A r0 τ) args s 0 0 A) σ 0 [(0, .ref (G.2.2.1 14)), (1, .int p1)] [] := by
  rw [c_X2_readAnd] at h
  refine v_aload_n hC dX2_readAnd_0 0 rfl ?_
  refine v_iload_n hC dX2_readAnd_1 1 rfl ?_
  obtain ⟨r3, s2, hc_1, h⟩ := bd2 h
  refine v_callVI hC xE_ok (n := 1) (As := [.int p1]) (k_X2_readNot l hkF hkN hkO hG (hO0) hc_1) (cwV 1 hC.1.2.2.2.2 gX2_readAnd_X2_readNot rfl rfl rfl (by decide +kernel) ⟨(by first | omega | (dsimp only; omega)), (by first | omega | (dsimp only; omega))⟩) hO0 (by decide) rfl rfl rfl (Nat.le_of_ble_eq_true rfl) ⟨Nat.zero_le _, Nat.zero_le _⟩ dX2_readAnd_2 rfl ?_
  refine v_istore_n (L' := [(0, .ref (G.2.2.1 14)), (1, .int p1), (2, .int r3)]) hC dX2_readAnd_5 (by decide) [1, 2, 0] rfl ?_
  refine v_iconst (v := 0) hC dX2_readAnd_6 (by decide) ?_
  refine v_istore_n (L' := [(0, .ref (G.2.2.1 14)), (1, .int p1), (2, .int r3), (3, .int 0)]) hC dX2_readAnd_7 (by decide) [1, 2, 3, 0] rfl ?_
  exact w_X2_readAnd_8 hkF hkN hkO hG (hO0) hC FU _ _ _ _ h
theorem k_X2_readAnd {adK adV : Nat → Nat} {tb : Nat} (l : Launch) {G : WD} {fr lo : Nat} {kF : Int32 → HS → Option (Int32 × HS)} {kN : Int32 → HS → Option (Int32 × HS)} {kO : Int32 → HS → Option (Int32 × HS)} {r0 : Int32} {τ : HS} {p1 : Int32} {σ : HS} (hkF : ∀ {a : Int32} {σ τ : HS} {r : Int32}, kF a σ = some (r, τ) → MI (xE adK adV tb) l yX2_readFormula wsX2_readFormula { frames := fr + 16, cells := 0, slots := 0, locals := lo + 840 } G xY [.ref (G.2.2.1 14), .int a] σ r τ) (hkN : ∀ {a : Int32} {σ τ : HS} {r : Int32}, kN a σ = some (r, τ) → MI (xE adK adV tb) l yX2_readNot wsX2_readNot { frames := fr + 14, cells := 0, slots := 0, locals := lo + 760 } G xY [.ref (G.2.2.1 14), .int a] σ r τ) (hkO : ∀ {a : Int32} {σ τ : HS} {r : Int32}, kO a σ = some (r, τ) → MI (xE adK adV tb) l yX2_readOne wsX2_readOne { frames := fr + 10, cells := 0, slots := 0, locals := lo + 600 } G xY [.ref (G.2.2.1 14), .int a] σ r τ) (hG : GX G xY) (hO0 : Ob G xY 14 2) (h : c_X2_readAnd kF kN kO p1 σ = some (r0, τ)) : MI (xE adK adV tb) l yX2_readAnd wsX2_readAnd { frames := fr + 20 + 15, cells := 0, slots := 0, locals := lo + 900 + 800 } G xY [.ref (G.2.2.1 14), .int p1] σ r0 τ :=
  MI.of RX2 (by decide) rfl rfl (Nat.le_of_ble_eq_true rfl) rfl rfl (fun p e s m below meth c hC => w_X2_readAnd hkF hkN hkO hG hO0 hC h)
def c_X2_readFormula_8 (kF : Int32 → HS → Option (Int32 × HS)) (kN : Int32 → HS → Option (Int32 × HS)) (kO : Int32 → HS → Option (Int32 × HS)) : Nat → Int32 → Int32 → Int32 → HS → Option (Int32 × HS)
  | 0, _, _, _, _ => none
  | n + 1, x1, x2, x3, σ => (if 160 ≤ x3 then (if isz x2 = true then (some (x2, σ)) else none) else (if x2 = 0 then (if isz x2 = true then (some (x2, σ)) else none) else (if (gI σ 14 2) = 10009 then (bi1 (c_X2_take σ) (fun s11 => (bi2 (c_X2_readAnd kF kN kO x1 s11) (fun r14 s13 => (mr (gR s13 14 1) (fun j16 => (bi1 (c_X6_add j16 10009 s13) (fun s19 => (c_X2_readFormula_8 kF kN kO n x1 r14 (x3 + 1) s19))))))))) else (if isz x2 = true then (some (x2, σ)) else none))))
set_option maxHeartbeats 4000000 in
set_option maxRecDepth 100000 in
theorem w_X2_readFormula_8 {adK adV : Nat → Nat} {tb : Nat} {p : Program} {l : Launch} {e : Env} {s : State} {m : MethodId} {args : Array Value} {below : List Frame} {meth : Method} {c : Code} {A : Nat → Prop} {G : WD} {fr lo : Nat} {kF : Int32 → HS → Option (Int32 × HS)} {kN : Int32 → HS → Option (Int32 × HS)} {kO : Int32 → HS → Option (Int32 × HS)} {r0 : Int32} {τ : HS}  (hkF : ∀ {a : Int32} {σ τ : HS} {r : Int32}, kF a σ = some (r, τ) → MI (xE adK adV tb) l yX2_readFormula wsX2_readFormula { frames := fr + 16, cells := 0, slots := 0, locals := lo + 840 } G xY [.ref (G.2.2.1 14), .int a] σ r τ) (hkN : ∀ {a : Int32} {σ τ : HS} {r : Int32}, kN a σ = some (r, τ) → MI (xE adK adV tb) l yX2_readNot wsX2_readNot { frames := fr + 14, cells := 0, slots := 0, locals := lo + 760 } G xY [.ref (G.2.2.1 14), .int a] σ r τ) (hkO : ∀ {a : Int32} {σ τ : HS} {r : Int32}, kO a σ = some (r, τ) → MI (xE adK adV tb) l yX2_readOne wsX2_readOne { frames := fr + 10, cells := 0, slots := 0, locals := lo + 600 } G xY [.ref (G.2.2.1 14), .int a] σ r τ) (hG : GX G xY) (hO0 : Ob G xY 14 2) (hC : Cx (xE adK adV tb) G.1 G.2.1 xY cX2_readFormula 4 (some .boolean) RX2 wsX2_readFormula p s m args meth c A)  : ∀ (n : Nat) (x1 : Int32) (x2 : Int32) (x3 : Int32) (σ : HS), c_X2_readFormula_8 kF kN kO n x1 x2 x3 σ = some (r0, τ) → V p l e { frames := fr + 20 + 16, cells := 0, slots := 0, locals := lo + 900 + 840 } s m args below meth c 4 A G xY 0 0 (MQ below (QI G xY A r0 τ) args s 0 0 A) σ 8 [(0, .ref (G.2.2.1 14)), (1, .int x1), (2, .int x2), (3, .int x3)] [] := by
  intro n
  induction n with
  | zero => intro x1 x2 x3 σ h; exact nof h
  | succ n ih =>
    intro x1 x2 x3 σ h
    rw [c_X2_readFormula_8] at h
    refine v_iload_n hC dX2_readFormula_8 3 rfl ?_
    refine v_sipush (v := 160) hC dX2_readFormula_9 (by decide) ?_
    refine v_icmp_ge (tgt := 55) hC dX2_readFormula_12 (by decide) (fun c_4 => ?_) (fun c_4 => ?_)
    · replace h := ift c_4 h
      refine v_iload_n hC dX2_readFormula_55 2 rfl ?_
      obtain ⟨g_5, h⟩ := gd h
      exact v_zret hC rfl (isz_n g_5) dX2_readFormula_56 h
    · replace h := ifn c_4 h
      refine v_iload_n hC dX2_readFormula_15 2 rfl ?_
      refine v_if_eq (tgt := 55) hC dX2_readFormula_16 (by decide) (fun c_6 => ?_) (fun c_6 => ?_)
      · replace h := ift c_6 h
        refine v_iload_n hC dX2_readFormula_55 2 rfl ?_
        obtain ⟨g_7, h⟩ := gd h
        exact v_zret hC rfl (isz_n g_7) dX2_readFormula_56 h
      · replace h := ifn c_6 h
        refine v_aload_n hC dX2_readFormula_19 0 rfl ?_
        refine v_get (C := RX2) (T := TX2) (N := 5) (ci := 2) (k := 2) (v := .int (gI σ 14 2)) hC hO0 hi_X2_readFormula_X2 rfl (by decide) (by decide) rfl rfl fl37_X2_readFormula dX2_readFormula_20 rfl ?_
        refine v_sipush (v := 10009) hC dX2_readFormula_23 (by decide) ?_
        refine v_icmp_ne (tgt := 55) hC dX2_readFormula_26 (by decide) (fun c_8 => ?_) (fun c_8 => ?_)
        · replace h := ifn c_8 h
          refine v_iload_n hC dX2_readFormula_55 2 rfl ?_
          obtain ⟨g_9, h⟩ := gd h
          exact v_zret hC rfl (isz_n g_9) dX2_readFormula_56 h
        · replace h := ift c_8 h
          refine v_aload_n hC dX2_readFormula_29 0 rfl ?_
          obtain ⟨s11, hc_10, h⟩ := bd1 h
          refine v_callVV hC xE_ok (n := 0) (As := []) (k_X2_take l hG (hO0) hc_10) (cwV 0 hC.1.2.2.2.2 gX2_readFormula_X2_take rfl rfl rfl (by decide +kernel) ⟨(by first | omega | (dsimp only; omega) | (dsimp only [rmX2_take]; omega)), (by first | omega | (dsimp only; omega) | (dsimp only [rmX2_take]; omega))⟩) hO0 (by decide) rfl rfl rfl (Nat.le_of_ble_eq_true rfl) ⟨Nat.zero_le _, Nat.zero_le _⟩ dX2_readFormula_30 rfl ?_
          refine v_aload_n hC dX2_readFormula_33 0 rfl ?_
          refine v_iload_n hC dX2_readFormula_34 1 rfl ?_
          obtain ⟨r14, s13, hc_12, h⟩ := bd2 h
          refine v_callVI hC xE_ok (n := 1) (As := [.int x1]) (k_X2_readAnd l hkF hkN hkO hG (hO0) hc_12) (cwV 1 hC.1.2.2.2.2 gX2_readFormula_X2_readAnd rfl rfl rfl (by decide +kernel) ⟨(by first | omega | (dsimp only; omega)), (by first | omega | (dsimp only; omega))⟩) hO0 (by decide) rfl rfl rfl (Nat.le_of_ble_eq_true rfl) ⟨Nat.zero_le _, Nat.zero_le _⟩ dX2_readFormula_35 rfl ?_
          refine v_istore_n (L' := [(0, .ref (G.2.2.1 14)), (1, .int x1), (2, .int r14), (3, .int x3)]) hC dX2_readFormula_38 (by decide) [1, 2, 0, 3] rfl ?_
          refine v_aload_n hC dX2_readFormula_39 0 rfl ?_
          refine v_wt (fun hw_15 => ?_)
          refine v_get (C := RX2) (T := TX2) (N := 5) (ci := 2) (k := 1) (v := rv G.2.2.1 (gR s13 14 1)) hC hO0 hi_X2_readFormula_X2 rfl (by decide) (by decide) rfl rfl fl15_X2_readFormula dX2_readFormula_40 rfl ?_
          refine v_sipush (v := 10009) hC dX2_readFormula_43 (by decide) ?_
          obtain ⟨j16, hj17, h⟩ := mrd h
          rw [hj17]
          rw [rv_s]
          obtain ⟨s19, hc_18, h⟩ := bd1 h
          refine v_callVV hC xE_ok (n := 1) (As := [.int 10009]) (k_X6_add l hG ((show Ob G xY j16 6 from (fun j hj => wt_ob hw_15 hO0 hj) j16 hj17)) hc_18) (cwV 1 hC.1.2.2.2.2 gX2_readFormula_X6_add rfl rfl rfl (by decide +kernel) ⟨(by first | omega | (dsimp only; omega) | (dsimp only [rmX6_add]; omega)), (by first | omega | (dsimp only; omega) | (dsimp only [rmX6_add]; omega))⟩) (show Ob G xY j16 6 from (fun j hj => wt_ob hw_15 hO0 hj) j16 hj17) (by decide) rfl rfl rfl (Nat.le_of_ble_eq_true rfl) ⟨Nat.zero_le _, Nat.zero_le _⟩ dX2_readFormula_46 rfl ?_
          refine v_iinc (v := (x3 + 1)) (L' := [(0, .ref (G.2.2.1 14)), (1, .int x1), (2, .int r14), (3, .int (x3 + 1))]) hC dX2_readFormula_49 3 rfl rfl (by decide) [1, 2, 3, 0] rfl ?_
          refine v_goto (tgt := 8) hC dX2_readFormula_52 (by decide) ?_
          exact ih _ _ _ _ h
def c_X2_readFormula (kF : Int32 → HS → Option (Int32 × HS)) (kN : Int32 → HS → Option (Int32 × HS)) (kO : Int32 → HS → Option (Int32 × HS)) (p1 : Int32) (σ : HS) : Option (Int32 × HS) := (bi2 (c_X2_readAnd kF kN kO p1 σ) (fun r3 s2 => (c_X2_readFormula_8 kF kN kO FU p1 r3 0 s2)))
set_option maxHeartbeats 4000000 in
set_option maxRecDepth 100000 in
theorem w_X2_readFormula {adK adV : Nat → Nat} {tb : Nat} {p : Program} {l : Launch} {e : Env} {s : State} {m : MethodId} {args : Array Value} {below : List Frame} {meth : Method} {c : Code} {A : Nat → Prop} {G : WD} {fr lo : Nat} {kF : Int32 → HS → Option (Int32 × HS)} {kN : Int32 → HS → Option (Int32 × HS)} {kO : Int32 → HS → Option (Int32 × HS)} {r0 : Int32} {τ : HS} {p1 : Int32} {σ : HS} (hkF : ∀ {a : Int32} {σ τ : HS} {r : Int32}, kF a σ = some (r, τ) → MI (xE adK adV tb) l yX2_readFormula wsX2_readFormula { frames := fr + 16, cells := 0, slots := 0, locals := lo + 840 } G xY [.ref (G.2.2.1 14), .int a] σ r τ) (hkN : ∀ {a : Int32} {σ τ : HS} {r : Int32}, kN a σ = some (r, τ) → MI (xE adK adV tb) l yX2_readNot wsX2_readNot { frames := fr + 14, cells := 0, slots := 0, locals := lo + 760 } G xY [.ref (G.2.2.1 14), .int a] σ r τ) (hkO : ∀ {a : Int32} {σ τ : HS} {r : Int32}, kO a σ = some (r, τ) → MI (xE adK adV tb) l yX2_readOne wsX2_readOne { frames := fr + 10, cells := 0, slots := 0, locals := lo + 600 } G xY [.ref (G.2.2.1 14), .int a] σ r τ) (hG : GX G xY) (hO0 : Ob G xY 14 2) (hC : Cx (xE adK adV tb) G.1 G.2.1 xY cX2_readFormula 4 (some .boolean) RX2 wsX2_readFormula p s m args meth c A) (h : c_X2_readFormula kF kN kO p1 σ = some (r0, τ)) : V p l e { frames := fr + 20 + 16, cells := 0, slots := 0, locals := lo + 900 + 840 } s m args below meth c 4 A G xY 0 0 (MQ below (QI G xY A r0 τ) args s 0 0 A) σ 0 [(0, .ref (G.2.2.1 14)), (1, .int p1)] [] := by
  rw [c_X2_readFormula] at h
  refine v_aload_n hC dX2_readFormula_0 0 rfl ?_
  refine v_iload_n hC dX2_readFormula_1 1 rfl ?_
  obtain ⟨r3, s2, hc_1, h⟩ := bd2 h
  refine v_callVI hC xE_ok (n := 1) (As := [.int p1]) (k_X2_readAnd l hkF hkN hkO hG (hO0) hc_1) (cwV 1 hC.1.2.2.2.2 gX2_readFormula_X2_readAnd rfl rfl rfl (by decide +kernel) ⟨(by first | omega | (dsimp only; omega)), (by first | omega | (dsimp only; omega))⟩) hO0 (by decide) rfl rfl rfl (Nat.le_of_ble_eq_true rfl) ⟨Nat.zero_le _, Nat.zero_le _⟩ dX2_readFormula_2 rfl ?_
  refine v_istore_n (L' := [(0, .ref (G.2.2.1 14)), (1, .int p1), (2, .int r3)]) hC dX2_readFormula_5 (by decide) [1, 2, 0] rfl ?_
  refine v_iconst (v := 0) hC dX2_readFormula_6 (by decide) ?_
  refine v_istore_n (L' := [(0, .ref (G.2.2.1 14)), (1, .int p1), (2, .int r3), (3, .int 0)]) hC dX2_readFormula_7 (by decide) [1, 2, 3, 0] rfl ?_
  exact w_X2_readFormula_8 hkF hkN hkO hG (hO0) hC FU _ _ _ _ h
theorem k_X2_readFormula {adK adV : Nat → Nat} {tb : Nat} (l : Launch) {G : WD} {fr lo : Nat} {kF : Int32 → HS → Option (Int32 × HS)} {kN : Int32 → HS → Option (Int32 × HS)} {kO : Int32 → HS → Option (Int32 × HS)} {r0 : Int32} {τ : HS} {p1 : Int32} {σ : HS} (hkF : ∀ {a : Int32} {σ τ : HS} {r : Int32}, kF a σ = some (r, τ) → MI (xE adK adV tb) l yX2_readFormula wsX2_readFormula { frames := fr + 16, cells := 0, slots := 0, locals := lo + 840 } G xY [.ref (G.2.2.1 14), .int a] σ r τ) (hkN : ∀ {a : Int32} {σ τ : HS} {r : Int32}, kN a σ = some (r, τ) → MI (xE adK adV tb) l yX2_readNot wsX2_readNot { frames := fr + 14, cells := 0, slots := 0, locals := lo + 760 } G xY [.ref (G.2.2.1 14), .int a] σ r τ) (hkO : ∀ {a : Int32} {σ τ : HS} {r : Int32}, kO a σ = some (r, τ) → MI (xE adK adV tb) l yX2_readOne wsX2_readOne { frames := fr + 10, cells := 0, slots := 0, locals := lo + 600 } G xY [.ref (G.2.2.1 14), .int a] σ r τ) (hG : GX G xY) (hO0 : Ob G xY 14 2) (h : c_X2_readFormula kF kN kO p1 σ = some (r0, τ)) : MI (xE adK adV tb) l yX2_readFormula wsX2_readFormula { frames := fr + 20 + 16, cells := 0, slots := 0, locals := lo + 900 + 840 } G xY [.ref (G.2.2.1 14), .int p1] σ r0 τ :=
  MI.of RX2 (by decide) rfl rfl (Nat.le_of_ble_eq_true rfl) rfl rfl (fun p e s m below meth c hC => w_X2_readFormula hkF hkN hkO hG hO0 hC h)
abbrev rmX2_readFormula : Room := { frames := 156, cells := 0, slots := 0, locals := 7140 }
/-- the reader's recursive methods, so many levels deep: formula, not, one -/
def rdX : Nat → (Int32 → HS → Option (Int32 × HS)) × (Int32 → HS → Option (Int32 × HS)) × (Int32 → HS → Option (Int32 × HS))
  | 0 => (fun _ _ => none, fun _ _ => none, fun _ _ => none)
  | d + 1 => (c_X2_readFormula (rdX d).1 (rdX d).2.1 (rdX d).2.2, c_X2_readNot (rdX d).1 (rdX d).2.1 (rdX d).2.2, c_X2_readOne (rdX d).1 (rdX d).2.1 (rdX d).2.2)
def c_rdF (p1 : Int32) (σ : HS) : Option (Int32 × HS) := (rdX 7).1 p1 σ
theorem k_rdX {adK adV : Nat → Nat} {tb : Nat} (l : Launch) {G : WD} (hG : GX G xY) (hO0 : Ob G xY 14 2) : ∀ d : Nat,
    (∀ {a : Int32} {σ τ : HS} {r : Int32}, (rdX d).1 a σ = some (r, τ) → MI (xE adK adV tb) l yX2_readFormula wsX2_readFormula { frames := 20 * d + 16, cells := 0, slots := 0, locals := 900 * d + 840 } G xY [.ref (G.2.2.1 14), .int a] σ r τ) ∧
    (∀ {a : Int32} {σ τ : HS} {r : Int32}, (rdX d).2.1 a σ = some (r, τ) → MI (xE adK adV tb) l yX2_readNot wsX2_readNot { frames := 20 * d + 14, cells := 0, slots := 0, locals := 900 * d + 760 } G xY [.ref (G.2.2.1 14), .int a] σ r τ) ∧
    (∀ {a : Int32} {σ τ : HS} {r : Int32}, (rdX d).2.2 a σ = some (r, τ) → MI (xE adK adV tb) l yX2_readOne wsX2_readOne { frames := 20 * d + 10, cells := 0, slots := 0, locals := 900 * d + 600 } G xY [.ref (G.2.2.1 14), .int a] σ r τ) := by
  intro d
  induction d with
  | zero => exact ⟨fun h => nof h, fun h => nof h, fun h => nof h⟩
  | succ d ih =>
    obtain ⟨hF, hN, hO⟩ := ih
    exact ⟨fun h => k_X2_readFormula l hF hN hO hG hO0 h, fun h => k_X2_readNot l hF hN hO hG hO0 h, fun h => k_X2_readOne l hF hN hO hG hO0 h⟩
theorem k_rdF {adK adV : Nat → Nat} {tb : Nat} (l : Launch) {G : WD} {p1 : Int32} {σ τ : HS} {r0 : Int32} (hG : GX G xY) (hO0 : Ob G xY 14 2) (h : c_rdF p1 σ = some (r0, τ)) : MI (xE adK adV tb) l yX2_readFormula wsX2_readFormula rmX2_readFormula G xY [.ref (G.2.2.1 14), .int p1] σ r0 τ := (k_rdX l hG hO0 7).1 h

abbrev rmX2_readPart : Room := { frames := 157, cells := 0, slots := 0, locals := 7163 }
def c_X2_readPart (p1 : Int32) (p2 : Int32) (σ : HS) : Option (Int32 × HS) := (if (gI σ 14 2) = p1 then (bi1 (c_X2_take σ) (fun s3 => (bi2 (c_rdF 0 s3) (fun r6 s5 => (if r6 = 0 then (some (0, s5)) else (if (gI s5 14 2) = 10014 then (mr (gR s5 14 1) (fun j10 => (bi1 (c_X6_endPart j10 p2 s5) (fun s13 => (bi1 (c_X2_take s13) (fun s15 => (some (1, s15)))))))) else (some (0, s5)))))))) else (some (0, σ)))
set_option maxHeartbeats 4000000 in
set_option maxRecDepth 100000 in
theorem w_X2_readPart {adK adV : Nat → Nat} {tb : Nat} {p : Program} {l : Launch} {e : Env} {s : State} {m : MethodId} {args : Array Value} {below : List Frame} {meth : Method} {c : Code} {A : Nat → Prop} {G : WD}  {r0 : Int32} {τ : HS} {p1 : Int32} {p2 : Int32} {σ : HS}  (hG : GX G xY) (hO0 : Ob G xY 14 2) (hC : Cx (xE adK adV tb) G.1 G.2.1 xY cX2_readPart 3 (some .boolean) RX2 wsX2_readPart p s m args meth c A) (h : c_X2_readPart p1 p2 σ = some (r0, τ)) : V p l e rmX2_readPart s m args below meth c 3 A G xY 0 0 (MQ below (QI G xY A r0 τ) args s 0 0 A) σ 0 [(0, .ref (G.2.2.1 14)), (1, .int p1), (2, .int p2)] [] := by
  rw [c_X2_readPart] at h
  refine v_aload_n hC dX2_readPart_0 0 rfl ?_
  refine v_get (C := RX2) (T := TX2) (N := 5) (ci := 2) (k := 2) (v := .int (gI σ 14 2)) hC hO0 hi_X2_readPart_X2 rfl (by decide) (by decide) rfl rfl fl37_X2_readPart dX2_readPart_1 rfl ?_
  refine v_iload_n hC dX2_readPart_4 1 rfl ?_
  refine v_icmp_eq (tgt := 10) hC dX2_readPart_5 (by decide) (fun c_1 => ?_) (fun c_1 => ?_)
  · replace h := ift c_1 h
    refine v_aload_n hC dX2_readPart_10 0 rfl ?_
    obtain ⟨s3, hc_2, h⟩ := bd1 h
    refine v_callVV hC xE_ok (n := 0) (As := []) (k_X2_take l hG (hO0) hc_2) (cwV 0 hC.1.2.2.2.2 gX2_readPart_X2_take rfl rfl rfl (by decide +kernel) ⟨(Nat.le_of_ble_eq_true rfl), (Nat.le_of_ble_eq_true rfl)⟩) hO0 (by decide) rfl rfl rfl (Nat.le_of_ble_eq_true rfl) ⟨Nat.zero_le _, Nat.zero_le _⟩ dX2_readPart_11 rfl ?_
    refine v_aload_n hC dX2_readPart_14 0 rfl ?_
    refine v_iconst (v := 0) hC dX2_readPart_15 (by decide) ?_
    obtain ⟨r6, s5, hc_4, h⟩ := bd2 h
    refine v_callVI hC xE_ok (n := 1) (As := [.int 0]) (k_rdF l hG (hO0) hc_4) (cwV 1 hC.1.2.2.2.2 gX2_readPart_X2_readFormula rfl rfl rfl (by decide +kernel) ⟨(Nat.le_of_ble_eq_true rfl), (Nat.le_of_ble_eq_true rfl)⟩) hO0 (by decide) rfl rfl rfl (Nat.le_of_ble_eq_true rfl) ⟨Nat.zero_le _, Nat.zero_le _⟩ dX2_readPart_16 rfl ?_
    refine v_if_eq (tgt := 32) hC dX2_readPart_19 (by decide) (fun c_7 => ?_) (fun c_7 => ?_)
    · replace h := ift c_7 h
      refine v_iconst (v := 0) hC dX2_readPart_32 (by decide) ?_
      exact v_zret hC rfl rfl dX2_readPart_33 h
    · replace h := ifn c_7 h
      refine v_aload_n hC dX2_readPart_22 0 rfl ?_
      refine v_get (C := RX2) (T := TX2) (N := 5) (ci := 2) (k := 2) (v := .int (gI s5 14 2)) hC hO0 hi_X2_readPart_X2 rfl (by decide) (by decide) rfl rfl fl37_X2_readPart dX2_readPart_23 rfl ?_
      refine v_sipush (v := 10014) hC dX2_readPart_26 (by decide) ?_
      refine v_icmp_eq (tgt := 34) hC dX2_readPart_29 (by decide) (fun c_8 => ?_) (fun c_8 => ?_)
      · replace h := ift c_8 h
        refine v_aload_n hC dX2_readPart_34 0 rfl ?_
        refine v_wt (fun hw_9 => ?_)
        refine v_get (C := RX2) (T := TX2) (N := 5) (ci := 2) (k := 1) (v := rv G.2.2.1 (gR s5 14 1)) hC hO0 hi_X2_readPart_X2 rfl (by decide) (by decide) rfl rfl fl15_X2_readPart dX2_readPart_35 rfl ?_
        refine v_iload_n hC dX2_readPart_38 2 rfl ?_
        obtain ⟨j10, hj11, h⟩ := mrd h
        rw [hj11]
        rw [rv_s]
        obtain ⟨s13, hc_12, h⟩ := bd1 h
        refine v_callVV hC xE_ok (n := 1) (As := [.int p2]) (k_X6_endPart l hG ((show Ob G xY j10 6 from (fun j hj => wt_ob hw_9 hO0 hj) j10 hj11)) hc_12) (cwV 1 hC.1.2.2.2.2 gX2_readPart_X6_endPart rfl rfl rfl (by decide +kernel) ⟨(Nat.le_of_ble_eq_true rfl), (Nat.le_of_ble_eq_true rfl)⟩) (show Ob G xY j10 6 from (fun j hj => wt_ob hw_9 hO0 hj) j10 hj11) (by decide) rfl rfl rfl (Nat.le_of_ble_eq_true rfl) ⟨Nat.zero_le _, Nat.zero_le _⟩ dX2_readPart_39 rfl ?_
        refine v_aload_n hC dX2_readPart_42 0 rfl ?_
        obtain ⟨s15, hc_14, h⟩ := bd1 h
        refine v_callVV hC xE_ok (n := 0) (As := []) (k_X2_take l hG (hO0) hc_14) (cwV 0 hC.1.2.2.2.2 gX2_readPart_X2_take rfl rfl rfl (by decide +kernel) ⟨(Nat.le_of_ble_eq_true rfl), (Nat.le_of_ble_eq_true rfl)⟩) hO0 (by decide) rfl rfl rfl (Nat.le_of_ble_eq_true rfl) ⟨Nat.zero_le _, Nat.zero_le _⟩ dX2_readPart_43 rfl ?_
        refine v_iconst (v := 1) hC dX2_readPart_46 (by decide) ?_
        exact v_zret hC rfl rfl dX2_readPart_47 h
      · replace h := ifn c_8 h
        refine v_iconst (v := 0) hC dX2_readPart_32 (by decide) ?_
        exact v_zret hC rfl rfl dX2_readPart_33 h
  · replace h := ifn c_1 h
    refine v_iconst (v := 0) hC dX2_readPart_8 (by decide) ?_
    exact v_zret hC rfl rfl dX2_readPart_9 h
theorem k_X2_readPart {adK adV : Nat → Nat} {tb : Nat} (l : Launch) {G : WD}   {r0 : Int32} {τ : HS} {p1 : Int32} {p2 : Int32} {σ : HS}  (hG : GX G xY) (hO0 : Ob G xY 14 2) (h : c_X2_readPart p1 p2 σ = some (r0, τ)) : MI (xE adK adV tb) l yX2_readPart wsX2_readPart rmX2_readPart G xY [.ref (G.2.2.1 14), .int p1, .int p2] σ r0 τ :=
  MI.of RX2 (by decide) rfl rfl (Nat.le_of_ble_eq_true rfl) rfl rfl (fun p e s m below meth c hC => w_X2_readPart  hG hO0 hC h)
abbrev rmX2_readText : Room := { frames := 158, cells := 0, slots := 0, locals := 7185 }
def c_X2_readText_74 (y0 : Int32) (σ : HS) : Option (Int32 × HS) := (if y0 = 0 then (some ((gI σ 14 3), σ)) else (some ((-1), σ)))
set_option maxHeartbeats 4000000 in
set_option maxRecDepth 100000 in
theorem w_X2_readText_74 {adK adV : Nat → Nat} {tb : Nat} {p : Program} {l : Launch} {e : Env} {s : State} {m : MethodId} {args : Array Value} {below : List Frame} {meth : Method} {c : Code} {A : Nat → Prop} {G : WD}  {r0 : Int32} {τ : HS}  {y0 : Int32} {σ : HS}  (hG : GX G xY) (hO0 : Ob G xY 14 2) (hC : Cx (xE adK adV tb) G.1 G.2.1 xY cX2_readText 4 (some .int) RX2 wsX2_readText p s m args meth c A)  (h : c_X2_readText_74 y0 σ = some (r0, τ)) : V p l e rmX2_readText s m args below meth c 4 A G xY 0 0 (MQ below (QI G xY A r0 τ) args s 0 0 A) σ 74 [(0, .ref (G.2.2.1 14))] [.int y0] := by
  rw [c_X2_readText_74] at h
  refine v_istore_n (L' := [(0, .ref (G.2.2.1 14)), (3, .int y0)]) hC dX2_readText_74 (by decide) [1, 0] rfl ?_
  refine v_iload_n hC dX2_readText_75 1 rfl ?_
  refine v_if_eq (tgt := 83) hC dX2_readText_76 (by decide) (fun c_27 => ?_) (fun c_27 => ?_)
  · replace h := ift c_27 h
    refine v_aload_n hC dX2_readText_83 0 rfl ?_
    refine v_get (C := RX2) (T := TX2) (N := 5) (ci := 2) (k := 3) (v := .int (gI σ 14 3)) hC hO0 hi_X2_readText_X2 rfl (by decide) (by decide) rfl rfl fl40_X2_readText dX2_readText_84 rfl ?_
    exact v_iret hC rfl dX2_readText_87 h
  · replace h := ifn c_27 h
    refine v_iconst (v := (-1)) hC dX2_readText_79 (by decide) ?_
    refine v_goto (tgt := 87) hC dX2_readText_80 (by decide) ?_
    exact v_iret hC rfl dX2_readText_87 h
def c_X2_readText_73 (σ : HS) : Option (Int32 × HS) := (c_X2_readText_74 0 σ)
set_option maxHeartbeats 4000000 in
set_option maxRecDepth 100000 in
theorem w_X2_readText_73 {adK adV : Nat → Nat} {tb : Nat} {p : Program} {l : Launch} {e : Env} {s : State} {m : MethodId} {args : Array Value} {below : List Frame} {meth : Method} {c : Code} {A : Nat → Prop} {G : WD}  {r0 : Int32} {τ : HS}   {σ : HS}  (hG : GX G xY) (hO0 : Ob G xY 14 2) (hC : Cx (xE adK adV tb) G.1 G.2.1 xY cX2_readText 4 (some .int) RX2 wsX2_readText p s m args meth c A)  (h : c_X2_readText_73  σ = some (r0, τ)) : V p l e rmX2_readText s m args below meth c 4 A G xY 0 0 (MQ below (QI G xY A r0 τ) args s 0 0 A) σ 73 [(0, .ref (G.2.2.1 14))] [] := by
  rw [c_X2_readText_73] at h
  refine v_iconst (v := 0) hC dX2_readText_73 (by decide) ?_
  exact w_X2_readText_74 hG (hO0) hC h
def c_X2_readText (i1 : Nat) (i2 : Nat) (σ : HS) : Option (Int32 × HS) := (lt (sR σ 14 0 (some i1)) (fun s1 => (lt (sR s1 14 1 (some i2)) (fun s3 => (lt (sI s3 14 4 0) (fun s5 => (mr (gR s5 14 1) (fun j8 => (bi1 (c_X6_clear j8 s5) (fun s11 => (bi1 (c_X2_take s11) (fun s13 => (bi2 (c_X2_readPart 10006 0 s13) (fun r16 s15 => (if r16 = 0 then (c_X2_readText_73 s15) else (bi2 (c_X2_readPart 10007 1 s15) (fun r20 s19 => (if r20 = 0 then (c_X2_readText_73 s19) else (bi2 (c_X2_readPart 10008 2 s19) (fun r24 s23 => (if r24 = 0 then (c_X2_readText_73 s23) else (if (gI s23 14 2) = 10021 then (c_X2_readText_74 1 s23) else (c_X2_readText_73 s23)))))))))))))))))))))))
set_option maxHeartbeats 4000000 in
set_option maxRecDepth 100000 in
theorem w_X2_readText {adK adV : Nat → Nat} {tb : Nat} {p : Program} {l : Launch} {e : Env} {s : State} {m : MethodId} {args : Array Value} {below : List Frame} {meth : Method} {c : Code} {A : Nat → Prop} {G : WD}  {r0 : Int32} {τ : HS} {i1 : Nat} {i2 : Nat} {σ : HS}  (hG : GX G xY) (hO0 : Ob G xY 14 2) (hO1 : Ob G xY i1 5) (hO2 : Ob G xY i2 6) (hC : Cx (xE adK adV tb) G.1 G.2.1 xY cX2_readText 4 (some .int) RX2 wsX2_readText p s m args meth c A) (h : c_X2_readText i1 i2 σ = some (r0, τ)) : V p l e rmX2_readText s m args below meth c 4 A G xY 0 0 (MQ below (QI G xY A r0 τ) args s 0 0 A) σ 0 [(0, .ref (G.2.2.1 14)), (1, .ref (G.2.2.1 i1)), (2, .ref (G.2.2.1 i2))] [] := by
  rw [c_X2_readText] at h
  refine v_aload_n hC dX2_readText_0 0 rfl ?_
  refine v_aload_n hC dX2_readText_1 1 rfl ?_
  refine v_putR (C := RX2) (T := TX2) (N := 5) (ci := 2) (k := 0) (K := "HundredBoxes$Tape") hC hO0 hi_X2_readText_X2 rfl (by decide) (by decide) rfl rfl tyX2_ok nmX2 fl9_X2_readText rfl rfl rfl hO1 dX2_readText_2 ?_
  obtain ⟨s1, e2, h⟩ := ld h
  refine V.eq e2 ?_
  refine v_aload_n hC dX2_readText_5 0 rfl ?_
  refine v_aload_n hC dX2_readText_6 2 rfl ?_
  refine v_putR (C := RX2) (T := TX2) (N := 5) (ci := 2) (k := 1) (K := "HundredBoxes$Text") hC hO0 hi_X2_readText_X2 rfl (by decide) (by decide) rfl rfl tyX2_ok nmX2 fl15_X2_readText rfl rfl rfl hO2 dX2_readText_7 ?_
  obtain ⟨s3, e4, h⟩ := ld h
  refine V.eq e4 ?_
  refine v_aload_n hC dX2_readText_10 0 rfl ?_
  refine v_iconst (v := 0) hC dX2_readText_11 (by decide) ?_
  refine v_putI (C := RX2) (T := TX2) (N := 5) (ci := 2) (k := 4) (ty := .int) hC hO0 hi_X2_readText_X2 rfl (by decide) (by decide) rfl rfl tyX2_ok nmX2 fl19_X2_readText rfl rfl rfl rfl rfl dX2_readText_12 ?_
  obtain ⟨s5, e6, h⟩ := ld h
  refine V.eq e6 ?_
  refine v_aload_n hC dX2_readText_15 0 rfl ?_
  refine v_wt (fun hw_7 => ?_)
  refine v_get (C := RX2) (T := TX2) (N := 5) (ci := 2) (k := 1) (v := rv G.2.2.1 (gR s5 14 1)) hC hO0 hi_X2_readText_X2 rfl (by decide) (by decide) rfl rfl fl15_X2_readText dX2_readText_16 rfl ?_
  obtain ⟨j8, hj9, h⟩ := mrd h
  rw [hj9]
  rw [rv_s]
  obtain ⟨s11, hc_10, h⟩ := bd1 h
  refine v_callVV hC xE_ok (n := 0) (As := []) (k_X6_clear l hG ((show Ob G xY j8 6 from (fun j hj => wt_ob hw_7 hO0 hj) j8 hj9)) hc_10) (cwV 0 hC.1.2.2.2.2 gX2_readText_X6_clear rfl rfl rfl (by decide +kernel) ⟨(Nat.le_of_ble_eq_true rfl), (Nat.le_of_ble_eq_true rfl)⟩) (show Ob G xY j8 6 from (fun j hj => wt_ob hw_7 hO0 hj) j8 hj9) (by decide) rfl rfl rfl (Nat.le_of_ble_eq_true rfl) ⟨Nat.zero_le _, Nat.zero_le _⟩ dX2_readText_19 rfl ?_
  refine v_aload_n hC dX2_readText_22 0 rfl ?_
  obtain ⟨s13, hc_12, h⟩ := bd1 h
  refine v_callVV hC xE_ok (n := 0) (As := []) (k_X2_take l hG (hO0) hc_12) (cwV 0 hC.1.2.2.2.2 gX2_readText_X2_take rfl rfl rfl (by decide +kernel) ⟨(Nat.le_of_ble_eq_true rfl), (Nat.le_of_ble_eq_true rfl)⟩) hO0 (by decide) rfl rfl rfl (Nat.le_of_ble_eq_true rfl) ⟨Nat.zero_le _, Nat.zero_le _⟩ dX2_readText_23 rfl ?_
  refine v_aload_n hC dX2_readText_26 0 rfl ?_
  refine v_sipush (v := 10006) hC dX2_readText_27 (by decide) ?_
  refine v_iconst (v := 0) hC dX2_readText_30 (by decide) ?_
  obtain ⟨r16, s15, hc_14, h⟩ := bd2 h
  refine v_callVI hC xE_ok (n := 2) (As := [.int 10006, .int 0]) (k_X2_readPart l hG (hO0) hc_14) (cwV 2 hC.1.2.2.2.2 gX2_readText_X2_readPart rfl rfl rfl (by decide +kernel) ⟨(Nat.le_of_ble_eq_true rfl), (Nat.le_of_ble_eq_true rfl)⟩) hO0 (by decide) rfl rfl rfl (Nat.le_of_ble_eq_true rfl) ⟨Nat.zero_le _, Nat.zero_le _⟩ dX2_readText_31 rfl ?_
  refine v_if_eq (tgt := 73) hC dX2_readText_34 (by decide) (fun c_17 => ?_) (fun c_17 => ?_)
  · replace h := ift c_17 h
    refine V.sub (L' := [(0, .ref (G.2.2.1 14))]) [0] rfl ?_
    exact w_X2_readText_73 hG (hO0) hC h
  · replace h := ifn c_17 h
    refine v_aload_n hC dX2_readText_37 0 rfl ?_
    refine v_sipush (v := 10007) hC dX2_readText_38 (by decide) ?_
    refine v_iconst (v := 1) hC dX2_readText_41 (by decide) ?_
    obtain ⟨r20, s19, hc_18, h⟩ := bd2 h
    refine v_callVI hC xE_ok (n := 2) (As := [.int 10007, .int 1]) (k_X2_readPart l hG (hO0) hc_18) (cwV 2 hC.1.2.2.2.2 gX2_readText_X2_readPart rfl rfl rfl (by decide +kernel) ⟨(Nat.le_of_ble_eq_true rfl), (Nat.le_of_ble_eq_true rfl)⟩) hO0 (by decide) rfl rfl rfl (Nat.le_of_ble_eq_true rfl) ⟨Nat.zero_le _, Nat.zero_le _⟩ dX2_readText_42 rfl ?_
    refine v_if_eq (tgt := 73) hC dX2_readText_45 (by decide) (fun c_21 => ?_) (fun c_21 => ?_)
    · replace h := ift c_21 h
      refine V.sub (L' := [(0, .ref (G.2.2.1 14))]) [0] rfl ?_
      exact w_X2_readText_73 hG (hO0) hC h
    · replace h := ifn c_21 h
      refine v_aload_n hC dX2_readText_48 0 rfl ?_
      refine v_sipush (v := 10008) hC dX2_readText_49 (by decide) ?_
      refine v_iconst (v := 2) hC dX2_readText_52 (by decide) ?_
      obtain ⟨r24, s23, hc_22, h⟩ := bd2 h
      refine v_callVI hC xE_ok (n := 2) (As := [.int 10008, .int 2]) (k_X2_readPart l hG (hO0) hc_22) (cwV 2 hC.1.2.2.2.2 gX2_readText_X2_readPart rfl rfl rfl (by decide +kernel) ⟨(Nat.le_of_ble_eq_true rfl), (Nat.le_of_ble_eq_true rfl)⟩) hO0 (by decide) rfl rfl rfl (Nat.le_of_ble_eq_true rfl) ⟨Nat.zero_le _, Nat.zero_le _⟩ dX2_readText_53 rfl ?_
      refine v_if_eq (tgt := 73) hC dX2_readText_56 (by decide) (fun c_25 => ?_) (fun c_25 => ?_)
      · replace h := ift c_25 h
        refine V.sub (L' := [(0, .ref (G.2.2.1 14))]) [0] rfl ?_
        exact w_X2_readText_73 hG (hO0) hC h
      · replace h := ifn c_25 h
        refine v_aload_n hC dX2_readText_59 0 rfl ?_
        refine v_get (C := RX2) (T := TX2) (N := 5) (ci := 2) (k := 2) (v := .int (gI s23 14 2)) hC hO0 hi_X2_readText_X2 rfl (by decide) (by decide) rfl rfl fl37_X2_readText dX2_readText_60 rfl ?_
        refine v_sipush (v := 10021) hC dX2_readText_63 (by decide) ?_
        refine v_icmp_ne (tgt := 73) hC dX2_readText_66 (by decide) (fun c_26 => ?_) (fun c_26 => ?_)
        · replace h := ifn c_26 h
          refine V.sub (L' := [(0, .ref (G.2.2.1 14))]) [0] rfl ?_
          exact w_X2_readText_73 hG (hO0) hC h
        · replace h := ift c_26 h
          refine v_iconst (v := 1) hC dX2_readText_69 (by decide) ?_
          refine v_goto (tgt := 74) hC dX2_readText_70 (by decide) ?_
          refine V.sub (L' := [(0, .ref (G.2.2.1 14))]) [0] rfl ?_
          exact w_X2_readText_74 hG (hO0) hC h
theorem k_X2_readText {adK adV : Nat → Nat} {tb : Nat} (l : Launch) {G : WD}   {r0 : Int32} {τ : HS} {i1 : Nat} {i2 : Nat} {σ : HS}  (hG : GX G xY) (hO0 : Ob G xY 14 2) (hO1 : Ob G xY i1 5) (hO2 : Ob G xY i2 6) (h : c_X2_readText i1 i2 σ = some (r0, τ)) : MI (xE adK adV tb) l yX2_readText wsX2_readText rmX2_readText G xY [.ref (G.2.2.1 14), .ref (G.2.2.1 i1), .ref (G.2.2.1 i2)] σ r0 τ :=
  MI.of RX2 (by decide) rfl rfl (Nat.le_of_ble_eq_true rfl) rfl rfl (fun p e s m below meth c hC => w_X2_readText  hG hO0 hO1 hO2 hC h)
abbrev rmX8_text : Room := { frames := 159, cells := 0, slots := 0, locals := 7208 }
def c_X8_text (σ : HS) : Option (Int32 × HS) := (if (gI σ 0 12) < 6 then (if inb (gI σ 0 12) 6 = true then (mr (gR σ 11 (ix (gI σ 0 12))) (fun j4 => (bi2 (c_X2_readText 12 j4 σ) (fun r8 s7 => (bi1 (c_X5_clear 12 s7) (fun s10 => (if r8 = (-1) then (lt (sI s10 0 12 ((gI s10 0 12) + 1)) (fun s12 => (some (((gI s12 0 12) - 1), s12)))) else (some (((-100) - r8), s10))))))))) else none) else (some ((-4), σ)))
set_option maxHeartbeats 4000000 in
set_option maxRecDepth 100000 in
theorem w_X8_text {adK adV : Nat → Nat} {tb : Nat} {p : Program} {l : Launch} {e : Env} {s : State} {m : MethodId} {args : Array Value} {below : List Frame} {meth : Method} {c : Code} {A : Nat → Prop} {G : WD}  {r0 : Int32} {τ : HS}  {σ : HS}  (hG : GX G xY) (hO0 : Ob G xY 0 7) (hC : Cx (xE adK adV tb) G.1 G.2.1 xY cX8_text 2 (some .int) RX8 wsX8_text p s m args meth c A) (h : c_X8_text  σ = some (r0, τ)) : V p l e rmX8_text s m args below meth c 2 A G xY 0 0 (MQ below (QI G xY A r0 τ) args s 0 0 A) σ 0 [(0, .ref (G.2.2.1 0))] [] := by
  rw [c_X8_text] at h
  refine v_aload_n hC dX8_text_0 0 rfl ?_
  refine v_get (C := RX8) (T := TX8) (N := 20) (ci := 7) (k := 12) (v := .int (gI σ 0 12)) hC hO0 hi_X8_text_X8 rfl (by decide) (by decide) rfl rfl fl55_X8_text dX8_text_1 rfl ?_
  refine v_bipush (v := 6) hC dX8_text_4 (by decide) ?_
  refine v_icmp_lt (tgt := 12) hC dX8_text_6 (by decide) (fun c_1 => ?_) (fun c_1 => ?_)
  · replace h := ift c_1 h
    refine v_aload_n hC dX8_text_12 0 rfl ?_
    refine v_get (C := RX8) (T := TX8) (N := 20) (ci := 7) (k := 14) (v := .ref (G.2.2.1 14)) hC hO0 hi_X8_text_X8 rfl (by decide) (by decide) rfl rfl fl68_X8_text dX8_text_13 rfl ?_
    refine v_aload_n hC dX8_text_16 0 rfl ?_
    refine v_get (C := RX8) (T := TX8) (N := 20) (ci := 7) (k := 13) (v := .ref (G.2.2.1 12)) hC hO0 hi_X8_text_X8 rfl (by decide) (by decide) rfl rfl fl61_X8_text dX8_text_17 rfl ?_
    refine v_aload_n hC dX8_text_20 0 rfl ?_
    refine v_get (C := RX8) (T := TX8) (N := 20) (ci := 7) (k := 11) (v := .ref (G.2.2.1 11)) hC hO0 hi_X8_text_X8 rfl (by decide) (by decide) rfl rfl fl51_X8_text dX8_text_21 rfl ?_
    refine v_aload_n hC dX8_text_24 0 rfl ?_
    refine v_get (C := RX8) (T := TX8) (N := 20) (ci := 7) (k := 12) (v := .int (gI σ 0 12)) hC hO0 hi_X8_text_X8 rfl (by decide) (by decide) rfl rfl fl55_X8_text dX8_text_25 rfl ?_
    obtain ⟨g_2, h⟩ := gd h
    refine v_wt (fun hw_3 => ?_)
    refine v_aald hC (obX_7_11 hG hO0).1 (by decide) (obX_7_11 hG hO0).2 (t0 := 4) rfl g_2 dX8_text_28 ?_
    obtain ⟨j4, hj5, h⟩ := mrd h
    rw [hj5]
    rw [rv_s]
    obtain ⟨r8, s7, hc_6, h⟩ := bd2 h
    refine v_callVI hC xE_ok (n := 2) (As := [.ref (G.2.2.1 12), .ref (G.2.2.1 j4)]) (k_X2_readText l hG ((obX_7_14 hG hO0)) ((obX_7_13 hG hO0)) ((show Ob G xY j4 6 from (fun j hj => wt_ob hw_3 (obX_7_11 hG hO0).1 hj) j4 hj5)) hc_6) (cwV 2 hC.1.2.2.2.2 gX8_text_X2_readText rfl rfl rfl (by decide +kernel) ⟨(Nat.le_of_ble_eq_true rfl), (Nat.le_of_ble_eq_true rfl)⟩) (obX_7_14 hG hO0) (by decide) rfl rfl rfl (Nat.le_of_ble_eq_true rfl) ⟨Nat.zero_le _, Nat.zero_le _⟩ dX8_text_29 rfl ?_
    refine v_istore_n (L' := [(0, .ref (G.2.2.1 0)), (1, .int r8)]) hC dX8_text_32 (by decide) [1, 0] rfl ?_
    refine v_aload_n hC dX8_text_33 0 rfl ?_
    refine v_get (C := RX8) (T := TX8) (N := 20) (ci := 7) (k := 13) (v := .ref (G.2.2.1 12)) hC hO0 hi_X8_text_X8 rfl (by decide) (by decide) rfl rfl fl61_X8_text dX8_text_34 rfl ?_
    obtain ⟨s10, hc_9, h⟩ := bd1 h
    refine v_callVV hC xE_ok (n := 0) (As := []) (k_X5_clear l hG ((obX_7_13 hG hO0)) hc_9) (cwV 0 hC.1.2.2.2.2 gX8_text_X5_clear rfl rfl rfl (by decide +kernel) ⟨(Nat.le_of_ble_eq_true rfl), (Nat.le_of_ble_eq_true rfl)⟩) (obX_7_13 hG hO0) (by decide) rfl rfl rfl (Nat.le_of_ble_eq_true rfl) ⟨Nat.zero_le _, Nat.zero_le _⟩ dX8_text_37 rfl ?_
    refine v_iload_n hC dX8_text_40 1 rfl ?_
    refine v_iconst (v := (-1)) hC dX8_text_41 (by decide) ?_
    refine v_icmp_eq (tgt := 50) hC dX8_text_42 (by decide) (fun c_11 => ?_) (fun c_11 => ?_)
    · replace h := ift c_11 h
      refine v_aload_n hC dX8_text_50 0 rfl ?_
      refine v_dup hC dX8_text_51 rfl ?_
      refine v_get (C := RX8) (T := TX8) (N := 20) (ci := 7) (k := 12) (v := .int (gI s10 0 12)) hC hO0 hi_X8_text_X8 rfl (by decide) (by decide) rfl rfl fl55_X8_text dX8_text_52 rfl ?_
      refine v_iconst (v := 1) hC dX8_text_55 (by decide) ?_
      refine v_iadd hC dX8_text_56 ?_
      refine v_putI (C := RX8) (T := TX8) (N := 20) (ci := 7) (k := 12) (ty := .int) hC hO0 hi_X8_text_X8 rfl (by decide) (by decide) rfl rfl tyX8_ok nmX8 fl55_X8_text rfl rfl rfl rfl rfl dX8_text_57 ?_
      obtain ⟨s12, e13, h⟩ := ld h
      refine V.eq e13 ?_
      refine v_aload_n hC dX8_text_60 0 rfl ?_
      refine v_get (C := RX8) (T := TX8) (N := 20) (ci := 7) (k := 12) (v := .int (gI s12 0 12)) hC hO0 hi_X8_text_X8 rfl (by decide) (by decide) rfl rfl fl55_X8_text dX8_text_61 rfl ?_
      refine v_iconst (v := 1) hC dX8_text_64 (by decide) ?_
      refine v_isub hC dX8_text_65 ?_
      exact v_iret hC rfl dX8_text_66 h
    · replace h := ifn c_11 h
      refine v_bipush (v := (-100)) hC dX8_text_45 (by decide) ?_
      refine v_iload_n hC dX8_text_47 1 rfl ?_
      refine v_isub hC dX8_text_48 ?_
      exact v_iret hC rfl dX8_text_49 h
  · replace h := ifn c_1 h
    refine v_bipush (v := (-4)) hC dX8_text_9 (by decide) ?_
    exact v_iret hC rfl dX8_text_11 h
theorem k_X8_text {adK adV : Nat → Nat} {tb : Nat} (l : Launch) {G : WD}   {r0 : Int32} {τ : HS}  {σ : HS}  (hG : GX G xY) (hO0 : Ob G xY 0 7) (h : c_X8_text  σ = some (r0, τ)) : MI (xE adK adV tb) l yX8_text wsX8_text rmX8_text G xY [.ref (G.2.2.1 0)] σ r0 τ :=
  MI.of RX8 (by decide) rfl rfl (Nat.le_of_ble_eq_true rfl) rfl rfl (fun p e s m below meth c hC => w_X8_text  hG hO0 hC h)
