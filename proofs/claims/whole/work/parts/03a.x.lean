theorem fl15_X0_at : Cond.fieldLink RX0 15 RX0 (TX0 1).2.1 (TX0 1).2.2.1 ∈ wsX0_at := by decide +kernel
theorem hi_X0_at_X0 : ∀ w ∈ u_ws RX0 TX0 5, w ∈ wsX0_at := by decide +kernel
theorem fl9_X0_at : Cond.fieldLink RX0 9 RX0 (TX0 0).2.1 (TX0 0).2.2.1 ∈ wsX0_at := by decide +kernel
theorem fl15_X0_has : Cond.fieldLink RX0 15 RX0 (TX0 1).2.1 (TX0 1).2.2.1 ∈ wsX0_has := by decide +kernel
theorem hi_X0_has_X0 : ∀ w ∈ u_ws RX0 TX0 5, w ∈ wsX0_has := by decide +kernel
theorem fl9_X0_put : Cond.fieldLink RX0 9 RX0 (TX0 0).2.1 (TX0 0).2.2.1 ∈ wsX0_put := by decide +kernel
theorem hi_X0_put_X0 : ∀ w ∈ u_ws RX0 TX0 5, w ∈ wsX0_put := by decide +kernel
theorem fl15_X0_ringLength : Cond.fieldLink RX0 15 RX0 (TX0 1).2.1 (TX0 1).2.2.1 ∈ wsX0_ringLength := by decide +kernel
theorem hi_X0_ringLength_X0 : ∀ w ∈ u_ws RX0 TX0 5, w ∈ wsX0_ringLength := by decide +kernel
theorem fl15_X0_digits : Cond.fieldLink RX0 15 RX0 (TX0 1).2.1 (TX0 1).2.2.1 ∈ wsX0_digits := by decide +kernel
theorem hi_X0_digits_X0 : ∀ w ∈ u_ws RX0 TX0 5, w ∈ wsX0_digits := by decide +kernel
theorem mx19_X0_layOwn : Cond.methodLink RX0 19 Lib.Math.min.name ∈ wsX0_layOwn ∧ Cond.static Lib.Math.min.name ∈ wsX0_layOwn ∧ Cond.initialized "java/lang/Math" ∈ wsX0_layOwn ∧ Cond.code Lib.Math.min.name Lib.Math.min.code 2 (some .int) ∈ wsX0_layOwn := by decide +kernel
theorem mx25_X0_layOwn : Cond.methodLink RX0 25 Lib.Math.max.name ∈ wsX0_layOwn ∧ Cond.static Lib.Math.max.name ∈ wsX0_layOwn ∧ Cond.initialized "java/lang/Math" ∈ wsX0_layOwn ∧ Cond.code Lib.Math.max.name Lib.Math.max.code 2 (some .int) ∈ wsX0_layOwn := by decide +kernel
theorem fl15_X0_layOwn : Cond.fieldLink RX0 15 RX0 (TX0 1).2.1 (TX0 1).2.2.1 ∈ wsX0_layOwn := by decide +kernel
theorem hi_X0_layOwn_X0 : ∀ w ∈ u_ws RX0 TX0 5, w ∈ wsX0_layOwn := by decide +kernel
theorem fl9_X0_layOwn : Cond.fieldLink RX0 9 RX0 (TX0 0).2.1 (TX0 0).2.2.1 ∈ wsX0_layOwn := by decide +kernel
theorem fl15_X0_layAs : Cond.fieldLink RX0 15 RX0 (TX0 1).2.1 (TX0 1).2.2.1 ∈ wsX0_layAs := by decide +kernel
theorem hi_X0_layAs_X0 : ∀ w ∈ u_ws RX0 TX0 5, w ∈ wsX0_layAs := by decide +kernel
theorem fl9_X0_layAs : Cond.fieldLink RX0 9 RX0 (TX0 0).2.1 (TX0 0).2.2.1 ∈ wsX0_layAs := by decide +kernel
theorem ac28_X0_layAs : Cond.methodLink RX0 28 arraycopyName ∈ wsX0_layAs ∧ Cond.native arraycopyName ∈ wsX0_layAs ∧ Cond.static arraycopyName ∈ wsX0_layAs ∧ Cond.initialized "java/lang/System" ∈ wsX0_layAs := by decide +kernel
theorem fl46_X0_survey : Cond.fieldLink RX0 46 RX0 (TX0 2).2.1 (TX0 2).2.2.1 ∈ wsX0_survey := by decide +kernel
theorem hi_X0_survey_X0 : ∀ w ∈ u_ws RX0 TX0 5, w ∈ wsX0_survey := by decide +kernel
theorem fl49_X0_survey : Cond.fieldLink RX0 49 RX0 (TX0 3).2.1 (TX0 3).2.2.1 ∈ wsX0_survey := by decide +kernel
theorem fl52_X0_survey : Cond.fieldLink RX0 52 RX0 (TX0 4).2.1 (TX0 4).2.2.1 ∈ wsX0_survey := by decide +kernel
theorem fl15_X0_survey : Cond.fieldLink RX0 15 RX0 (TX0 1).2.1 (TX0 1).2.2.1 ∈ wsX0_survey := by decide +kernel
theorem mx25_X0_survey : Cond.methodLink RX0 25 Lib.Math.max.name ∈ wsX0_survey ∧ Cond.static Lib.Math.max.name ∈ wsX0_survey ∧ Cond.initialized "java/lang/Math" ∈ wsX0_survey ∧ Cond.code Lib.Math.max.name Lib.Math.max.code 2 (some .int) ∈ wsX0_survey := by decide +kernel
theorem fl15_X0_advance : Cond.fieldLink RX0 15 RX0 (TX0 1).2.1 (TX0 1).2.2.1 ∈ wsX0_advance := by decide +kernel
theorem hi_X0_advance_X0 : ∀ w ∈ u_ws RX0 TX0 5, w ∈ wsX0_advance := by decide +kernel
theorem fl9_X4_isOf : Cond.fieldLink RX4 9 RX4 (TX4 0).2.1 (TX4 0).2.2.1 ∈ wsX4_isOf := by decide +kernel
theorem hi_X4_isOf_X4 : ∀ w ∈ u_ws RX4 TX4 7, w ∈ wsX4_isOf := by decide +kernel
theorem fl15_X4_isOf : Cond.fieldLink RX4 15 RX4 (TX4 1).2.1 (TX4 1).2.2.1 ∈ wsX4_isOf := by decide +kernel
theorem fl18_X4_isOf : Cond.fieldLink RX4 18 RX4 (TX4 2).2.1 (TX4 2).2.2.1 ∈ wsX4_isOf := by decide +kernel
theorem fl9_X4_begin : Cond.fieldLink RX4 9 RX4 (TX4 0).2.1 (TX4 0).2.2.1 ∈ wsX4_begin := by decide +kernel
theorem hi_X4_begin_X4 : ∀ w ∈ u_ws RX4 TX4 7, w ∈ wsX4_begin := by decide +kernel
theorem fl15_X4_begin : Cond.fieldLink RX4 15 RX4 (TX4 1).2.1 (TX4 1).2.2.1 ∈ wsX4_begin := by decide +kernel
theorem fl18_X4_begin : Cond.fieldLink RX4 18 RX4 (TX4 2).2.1 (TX4 2).2.2.1 ∈ wsX4_begin := by decide +kernel
theorem fl21_X4_begin : Cond.fieldLink RX4 21 RX4 (TX4 3).2.1 (TX4 3).2.2.1 ∈ wsX4_begin := by decide +kernel
theorem fl24_X4_begin : Cond.fieldLink RX4 24 RX4 (TX4 6).2.1 (TX4 6).2.2.1 ∈ wsX4_begin := by decide +kernel
theorem fl28_X4_begin : Cond.fieldLink RX4 28 RX4 (TX4 4).2.1 (TX4 4).2.2.1 ∈ wsX4_begin := by decide +kernel
theorem fl31_X4_begin : Cond.fieldLink RX4 31 RX4 (TX4 5).2.1 (TX4 5).2.2.1 ∈ wsX4_begin := by decide +kernel
theorem fl24_X4_add : Cond.fieldLink RX4 24 RX4 (TX4 6).2.1 (TX4 6).2.2.1 ∈ wsX4_add := by decide +kernel
theorem hi_X4_add_X4 : ∀ w ∈ u_ws RX4 TX4 7, w ∈ wsX4_add := by decide +kernel
theorem fl9_X4_add : Cond.fieldLink RX4 9 RX4 (TX4 0).2.1 (TX4 0).2.2.1 ∈ wsX4_add := by decide +kernel
theorem fl21_X4_add : Cond.fieldLink RX4 21 RX4 (TX4 3).2.1 (TX4 3).2.2.1 ∈ wsX4_add := by decide +kernel
theorem fl28_X4_add : Cond.fieldLink RX4 28 RX4 (TX4 4).2.1 (TX4 4).2.2.1 ∈ wsX4_add := by decide +kernel
theorem fl31_X4_add : Cond.fieldLink RX4 31 RX4 (TX4 5).2.1 (TX4 5).2.2.1 ∈ wsX4_add := by decide +kernel
theorem fl18_X1_isTakenFor : Cond.fieldLink RX1 18 RX1 (TX1 0).2.1 (TX1 0).2.2.1 ∈ wsX1_isTakenFor := by decide +kernel
theorem hi_X1_isTakenFor_X1 : ∀ w ∈ u_ws RX1 TX1 3, w ∈ wsX1_isTakenFor := by decide +kernel
theorem tb_X1_isTakenFor : Cond.fieldLink RX1 25 RX1 "ABOVE" "[I" ∈ wsX1_isTakenFor := by decide +kernel
theorem fl18_X1_firstBox : Cond.fieldLink RX1 18 RX1 (TX1 0).2.1 (TX1 0).2.2.1 ∈ wsX1_firstBox := by decide +kernel
theorem hi_X1_firstBox_X1 : ∀ w ∈ u_ws RX1 TX1 3, w ∈ wsX1_firstBox := by decide +kernel
theorem fl22_X1_firstBox : Cond.fieldLink RX1 22 RX1 (TX1 1).2.1 (TX1 1).2.2.1 ∈ wsX1_firstBox := by decide +kernel
theorem fl18_X1_boxBehind : Cond.fieldLink RX1 18 RX1 (TX1 0).2.1 (TX1 0).2.2.1 ∈ wsX1_boxBehind := by decide +kernel
theorem hi_X1_boxBehind_X1 : ∀ w ∈ u_ws RX1 TX1 3, w ∈ wsX1_boxBehind := by decide +kernel
theorem fl22_X1_boxBehind : Cond.fieldLink RX1 22 RX1 (TX1 1).2.1 (TX1 1).2.2.1 ∈ wsX1_boxBehind := by decide +kernel
theorem hi_X1_lookThatFinds_X0 : ∀ w ∈ u_ws RX0 TX0 5, w ∈ wsX1_lookThatFinds := by decide +kernel
theorem fl15_X3_isMissing : Cond.fieldLink RX3 15 RX3 (TX3 1).2.1 (TX3 1).2.2.1 ∈ wsX3_isMissing := by decide +kernel
theorem hi_X3_isMissing_X3 : ∀ w ∈ u_ws RX3 TX3 3, w ∈ wsX3_isMissing := by decide +kernel
theorem fl19_X3_has : Cond.fieldLink RX3 19 RX3 (TX3 2).2.1 (TX3 2).2.2.1 ∈ wsX3_has := by decide +kernel
theorem hi_X3_has_X3 : ∀ w ∈ u_ws RX3 TX3 3, w ∈ wsX3_has := by decide +kernel
theorem fl19_X3_hasAll : Cond.fieldLink RX3 19 RX3 (TX3 2).2.1 (TX3 2).2.2.1 ∈ wsX3_hasAll := by decide +kernel
theorem hi_X3_hasAll_X3 : ∀ w ∈ u_ws RX3 TX3 3, w ∈ wsX3_hasAll := by decide +kernel
theorem fl9_X3_at : Cond.fieldLink RX3 9 RX3 (TX3 0).2.1 (TX3 0).2.2.1 ∈ wsX3_at := by decide +kernel
theorem hi_X3_at_X3 : ∀ w ∈ u_ws RX3 TX3 3, w ∈ wsX3_at := by decide +kernel
theorem fl9_X3_put : Cond.fieldLink RX3 9 RX3 (TX3 0).2.1 (TX3 0).2.2.1 ∈ wsX3_put := by decide +kernel
theorem hi_X3_put_X3 : ∀ w ∈ u_ws RX3 TX3 3, w ∈ wsX3_put := by decide +kernel
theorem fl15_X3_put : Cond.fieldLink RX3 15 RX3 (TX3 1).2.1 (TX3 1).2.2.1 ∈ wsX3_put := by decide +kernel
theorem fl15_X3_become : Cond.fieldLink RX3 15 RX3 (TX3 1).2.1 (TX3 1).2.2.1 ∈ wsX3_become := by decide +kernel
theorem hi_X3_become_X3 : ∀ w ∈ u_ws RX3 TX3 3, w ∈ wsX3_become := by decide +kernel
theorem mx22_X3_become : Cond.methodLink RX3 22 Lib.Math.min.name ∈ wsX3_become ∧ Cond.static Lib.Math.min.name ∈ wsX3_become ∧ Cond.initialized "java/lang/Math" ∈ wsX3_become ∧ Cond.code Lib.Math.min.name Lib.Math.min.code 2 (some .int) ∈ wsX3_become := by decide +kernel
theorem mx28_X3_become : Cond.methodLink RX3 28 Lib.Math.max.name ∈ wsX3_become ∧ Cond.static Lib.Math.max.name ∈ wsX3_become ∧ Cond.initialized "java/lang/Math" ∈ wsX3_become ∧ Cond.code Lib.Math.max.name Lib.Math.max.code 2 (some .int) ∈ wsX3_become := by decide +kernel
theorem fl19_X3_become : Cond.fieldLink RX3 19 RX3 (TX3 2).2.1 (TX3 2).2.2.1 ∈ wsX3_become := by decide +kernel
theorem fl9_X3_become : Cond.fieldLink RX3 9 RX3 (TX3 0).2.1 (TX3 0).2.2.1 ∈ wsX3_become := by decide +kernel
theorem fl15_X5_add : Cond.fieldLink RX5 15 RX5 (TX5 1).2.1 (TX5 1).2.2.1 ∈ wsX5_add := by decide +kernel
theorem hi_X5_add_X5 : ∀ w ∈ u_ws RX5 TX5 2, w ∈ wsX5_add := by decide +kernel
theorem fl9_X5_add : Cond.fieldLink RX5 9 RX5 (TX5 0).2.1 (TX5 0).2.2.1 ∈ wsX5_add := by decide +kernel
theorem fl15_X5_clear : Cond.fieldLink RX5 15 RX5 (TX5 1).2.1 (TX5 1).2.2.1 ∈ wsX5_clear := by decide +kernel
theorem hi_X5_clear_X5 : ∀ w ∈ u_ws RX5 TX5 2, w ∈ wsX5_clear := by decide +kernel
theorem fl15_X5_at : Cond.fieldLink RX5 15 RX5 (TX5 1).2.1 (TX5 1).2.2.1 ∈ wsX5_at := by decide +kernel
theorem hi_X5_at_X5 : ∀ w ∈ u_ws RX5 TX5 2, w ∈ wsX5_at := by decide +kernel
theorem fl9_X5_at : Cond.fieldLink RX5 9 RX5 (TX5 0).2.1 (TX5 0).2.2.1 ∈ wsX5_at := by decide +kernel
theorem fl15_X6_clear : Cond.fieldLink RX6 15 RX6 (TX6 1).2.1 (TX6 1).2.2.1 ∈ wsX6_clear := by decide +kernel
theorem hi_X6_clear_X6 : ∀ w ∈ u_ws RX6 TX6 5, w ∈ wsX6_clear := by decide +kernel
theorem fl15_X6_add : Cond.fieldLink RX6 15 RX6 (TX6 1).2.1 (TX6 1).2.2.1 ∈ wsX6_add := by decide +kernel
theorem hi_X6_add_X6 : ∀ w ∈ u_ws RX6 TX6 5, w ∈ wsX6_add := by decide +kernel
theorem fl9_X6_add : Cond.fieldLink RX6 9 RX6 (TX6 0).2.1 (TX6 0).2.2.1 ∈ wsX6_add := by decide +kernel
theorem fl19_X6_endPart : Cond.fieldLink RX6 19 RX6 (TX6 2).2.1 (TX6 2).2.2.1 ∈ wsX6_endPart := by decide +kernel
theorem hi_X6_endPart_X6 : ∀ w ∈ u_ws RX6 TX6 5, w ∈ wsX6_endPart := by decide +kernel
theorem fl15_X6_endPart : Cond.fieldLink RX6 15 RX6 (TX6 1).2.1 (TX6 1).2.2.1 ∈ wsX6_endPart := by decide +kernel
theorem fl25_X6_push : Cond.fieldLink RX6 25 RX6 (TX6 4).2.1 (TX6 4).2.2.1 ∈ wsX6_push := by decide +kernel
theorem hi_X6_push_X6 : ∀ w ∈ u_ws RX6 TX6 5, w ∈ wsX6_push := by decide +kernel
theorem fl22_X6_push : Cond.fieldLink RX6 22 RX6 (TX6 3).2.1 (TX6 3).2.2.1 ∈ wsX6_push := by decide +kernel
theorem fl25_X6_pull : Cond.fieldLink RX6 25 RX6 (TX6 4).2.1 (TX6 4).2.2.1 ∈ wsX6_pull := by decide +kernel
theorem hi_X6_pull_X6 : ∀ w ∈ u_ws RX6 TX6 5, w ∈ wsX6_pull := by decide +kernel
theorem fl22_X6_pull : Cond.fieldLink RX6 22 RX6 (TX6 3).2.1 (TX6 3).2.2.1 ∈ wsX6_pull := by decide +kernel
theorem fl25_X6_worth : Cond.fieldLink RX6 25 RX6 (TX6 4).2.1 (TX6 4).2.2.1 ∈ wsX6_worth := by decide +kernel
theorem hi_X6_worth_X6 : ∀ w ∈ u_ws RX6 TX6 5, w ∈ wsX6_worth := by decide +kernel
theorem fl19_X6_worth : Cond.fieldLink RX6 19 RX6 (TX6 2).2.1 (TX6 2).2.2.1 ∈ wsX6_worth := by decide +kernel
theorem fl9_X6_worth : Cond.fieldLink RX6 9 RX6 (TX6 0).2.1 (TX6 0).2.2.1 ∈ wsX6_worth := by decide +kernel
abbrev rmX0_at : Room := { frames := 0, cells := 0, slots := 0, locals := 0 }
def c_X0_at (i0 : Nat) (p1 : Int32) (σ : HS) : Option (Int32 × HS) := (if p1 < 0 then (some ((-1), σ)) else (if (gI σ i0 1) ≤ p1 then (some ((-1), σ)) else (if inb p1 12 = true then (some ((gI σ (i0 + 1) (ix p1)), σ)) else none)))
set_option maxHeartbeats 4000000 in
set_option maxRecDepth 100000 in
theorem w_X0_at {adK adV : Nat → Nat} {tb : Nat} {p : Program} {l : Launch} {e : Env} {s : State} {m : MethodId} {args : Array Value} {below : List Frame} {meth : Method} {c : Code} {A : Nat → Prop} {G : WD}  {r0 : Int32} {τ : HS} {i0 : Nat} {p1 : Int32} {σ : HS}  (hG : GX G xY) (hO0 : Ob G xY i0 0) (hC : Cx (xE adK adV tb) G.1 G.2.1 xY cX0_at 2 (some .int) RX0 wsX0_at p s m args meth c A) (h : c_X0_at i0 p1 σ = some (r0, τ)) : V p l e rmX0_at s m args below meth c 2 A G xY 0 0 (MQ below (QI G xY A r0 τ) args s 0 0 A) σ 0 [(0, .ref (G.2.2.1 i0)), (1, .int p1)] [] := by
  rw [c_X0_at] at h
  refine v_iload_n hC dX0_at_0 1 rfl ?_
  refine v_if_lt (tgt := 21) hC dX0_at_1 (by decide) (fun c_1 => ?_) (fun c_1 => ?_)
  · replace h := ift c_1 h
    refine v_iconst (v := (-1)) hC dX0_at_21 (by decide) ?_
    exact v_iret hC rfl dX0_at_22 h
  · replace h := ifn c_1 h
    refine v_iload_n hC dX0_at_4 1 rfl ?_
    refine v_aload_n hC dX0_at_5 0 rfl ?_
    refine v_get (C := RX0) (T := TX0) (N := 5) (ci := 0) (k := 1) (v := .int (gI σ i0 1)) hC hO0 hi_X0_at_X0 rfl (by decide) (by decide) rfl rfl fl15_X0_at dX0_at_6 rfl ?_
    refine v_icmp_ge (tgt := 21) hC dX0_at_9 (by decide) (fun c_2 => ?_) (fun c_2 => ?_)
    · replace h := ift c_2 h
      refine v_iconst (v := (-1)) hC dX0_at_21 (by decide) ?_
      exact v_iret hC rfl dX0_at_22 h
    · replace h := ifn c_2 h
      refine v_aload_n hC dX0_at_12 0 rfl ?_
      refine v_get (C := RX0) (T := TX0) (N := 5) (ci := 0) (k := 0) (v := .ref (G.2.2.1 (i0 + 1))) hC hO0 hi_X0_at_X0 rfl (by decide) (by decide) rfl rfl fl9_X0_at dX0_at_13 rfl ?_
      refine v_iload_n hC dX0_at_16 1 rfl ?_
      obtain ⟨g_3, h⟩ := gd h
      refine v_iald hC (obX_0_0 hG hO0).1 (obX_0_0 hG hO0).2 (t0 := 0) rfl g_3 dX0_at_17 ?_
      refine v_goto (tgt := 22) hC dX0_at_18 (by decide) ?_
      exact v_iret hC rfl dX0_at_22 h
theorem k_X0_at {adK adV : Nat → Nat} {tb : Nat} (l : Launch) {G : WD}  {r0 : Int32} {τ : HS} {i0 : Nat} {p1 : Int32} {σ : HS}  (hG : GX G xY) (hO0 : Ob G xY i0 0) (h : c_X0_at i0 p1 σ = some (r0, τ)) : MI (xE adK adV tb) l yX0_at wsX0_at rmX0_at G xY [.ref (G.2.2.1 i0), .int p1] σ r0 τ :=
  MI.of RX0 (by decide) rfl rfl (Nat.le_of_ble_eq_true rfl) rfl rfl (fun p e s m below meth c hC => w_X0_at  hG hO0 hC h)
abbrev rmX0_has : Room := { frames := 0, cells := 0, slots := 0, locals := 0 }
def c_X0_has (i0 : Nat) (p1 : Int32) (σ : HS) : Option (Int32 × HS) := (if p1 < 0 then (some (0, σ)) else (if (gI σ i0 1) ≤ p1 then (some (0, σ)) else (some (1, σ))))
set_option maxHeartbeats 4000000 in
set_option maxRecDepth 100000 in
theorem w_X0_has {adK adV : Nat → Nat} {tb : Nat} {p : Program} {l : Launch} {e : Env} {s : State} {m : MethodId} {args : Array Value} {below : List Frame} {meth : Method} {c : Code} {A : Nat → Prop} {G : WD}  {r0 : Int32} {τ : HS} {i0 : Nat} {p1 : Int32} {σ : HS}  (hG : GX G xY) (hO0 : Ob G xY i0 0) (hC : Cx (xE adK adV tb) G.1 G.2.1 xY cX0_has 2 (some .boolean) RX0 wsX0_has p s m args meth c A) (h : c_X0_has i0 p1 σ = some (r0, τ)) : V p l e rmX0_has s m args below meth c 2 A G xY 0 0 (MQ below (QI G xY A r0 τ) args s 0 0 A) σ 0 [(0, .ref (G.2.2.1 i0)), (1, .int p1)] [] := by
  rw [c_X0_has] at h
  refine v_iload_n hC dX0_has_0 1 rfl ?_
  refine v_if_lt (tgt := 16) hC dX0_has_1 (by decide) (fun c_1 => ?_) (fun c_1 => ?_)
  · replace h := ift c_1 h
    refine v_iconst (v := 0) hC dX0_has_16 (by decide) ?_
    exact v_zret hC rfl rfl dX0_has_17 h
  · replace h := ifn c_1 h
    refine v_iload_n hC dX0_has_4 1 rfl ?_
    refine v_aload_n hC dX0_has_5 0 rfl ?_
    refine v_get (C := RX0) (T := TX0) (N := 5) (ci := 0) (k := 1) (v := .int (gI σ i0 1)) hC hO0 hi_X0_has_X0 rfl (by decide) (by decide) rfl rfl fl15_X0_has dX0_has_6 rfl ?_
    refine v_icmp_ge (tgt := 16) hC dX0_has_9 (by decide) (fun c_2 => ?_) (fun c_2 => ?_)
    · replace h := ift c_2 h
      refine v_iconst (v := 0) hC dX0_has_16 (by decide) ?_
      exact v_zret hC rfl rfl dX0_has_17 h
    · replace h := ifn c_2 h
      refine v_iconst (v := 1) hC dX0_has_12 (by decide) ?_
      refine v_goto (tgt := 17) hC dX0_has_13 (by decide) ?_
      exact v_zret hC rfl rfl dX0_has_17 h
theorem k_X0_has {adK adV : Nat → Nat} {tb : Nat} (l : Launch) {G : WD}  {r0 : Int32} {τ : HS} {i0 : Nat} {p1 : Int32} {σ : HS}  (hG : GX G xY) (hO0 : Ob G xY i0 0) (h : c_X0_has i0 p1 σ = some (r0, τ)) : MI (xE adK adV tb) l yX0_has wsX0_has rmX0_has G xY [.ref (G.2.2.1 i0), .int p1] σ r0 τ :=
  MI.of RX0 (by decide) rfl rfl (Nat.le_of_ble_eq_true rfl) rfl rfl (fun p e s m below meth c hC => w_X0_has  hG hO0 hC h)
abbrev rmX0_put : Room := { frames := 1, cells := 0, slots := 0, locals := 21 }
def c_X0_put (i0 : Nat) (p1 : Int32) (p2 : Int32) (σ : HS) : Option HS := (bi2 (c_X0_has i0 p1 σ) (fun r3 s2 => (if r3 = 0 then (some s2) else (if inb p1 12 = true then (lt (sI s2 (i0 + 1) (ix p1) p2) (fun s6 => (some s6))) else none))))
set_option maxHeartbeats 4000000 in
set_option maxRecDepth 100000 in
theorem w_X0_put {adK adV : Nat → Nat} {tb : Nat} {p : Program} {l : Launch} {e : Env} {s : State} {m : MethodId} {args : Array Value} {below : List Frame} {meth : Method} {c : Code} {A : Nat → Prop} {G : WD}  {τ : HS} {i0 : Nat} {p1 : Int32} {p2 : Int32} {σ : HS}  (hG : GX G xY) (hO0 : Ob G xY i0 0) (hC : Cx (xE adK adV tb) G.1 G.2.1 xY cX0_put 3 none RX0 wsX0_put p s m args meth c A) (h : c_X0_put i0 p1 p2 σ = some τ) : V p l e rmX0_put s m args below meth c 3 A G xY 0 0 (MQ below (QV G xY A τ) args s 0 0 A) σ 0 [(0, .ref (G.2.2.1 i0)), (1, .int p1), (2, .int p2)] [] := by
  rw [c_X0_put] at h
  refine v_aload_n hC dX0_put_0 0 rfl ?_
  refine v_iload_n hC dX0_put_1 1 rfl ?_
  obtain ⟨r3, s2, hc_1, h⟩ := bd2 h
  refine v_callVI hC xE_ok (n := 1) (As := [.int p1]) (k_X0_has l hG (hO0) hc_1) (cwV 1 hC.1.2.2.2.2 gX0_put_X0_has rfl rfl rfl (by decide +kernel) ⟨(Nat.le_of_ble_eq_true rfl), (Nat.le_of_ble_eq_true rfl)⟩) hO0 (by decide) rfl rfl rfl (Nat.le_of_ble_eq_true rfl) ⟨Nat.zero_le _, Nat.zero_le _⟩ dX0_put_2 rfl ?_
  refine v_if_eq (tgt := 15) hC dX0_put_5 (by decide) (fun c_4 => ?_) (fun c_4 => ?_)
  · replace h := ift c_4 h
    exact v_vret hC rfl dX0_put_15 h
  · replace h := ifn c_4 h
    refine v_aload_n hC dX0_put_8 0 rfl ?_
    refine v_get (C := RX0) (T := TX0) (N := 5) (ci := 0) (k := 0) (v := .ref (G.2.2.1 (i0 + 1))) hC hO0 hi_X0_put_X0 rfl (by decide) (by decide) rfl rfl fl9_X0_put dX0_put_9 rfl ?_
    refine v_iload_n hC dX0_put_12 1 rfl ?_
    refine v_iload_n hC dX0_put_13 2 rfl ?_
    obtain ⟨g_5, h⟩ := gd h
    refine v_iast hC (obX_0_0 hG hO0).1 (obX_0_0 hG hO0).2 (t0 := 0) rfl g_5 dX0_put_14 ?_
    obtain ⟨s6, e7, h⟩ := ld h
    refine V.eq e7 ?_
    exact v_vret hC rfl dX0_put_15 h
theorem k_X0_put {adK adV : Nat → Nat} {tb : Nat} (l : Launch) {G : WD}  {τ : HS} {i0 : Nat} {p1 : Int32} {p2 : Int32} {σ : HS}  (hG : GX G xY) (hO0 : Ob G xY i0 0) (h : c_X0_put i0 p1 p2 σ = some τ) : MV (xE adK adV tb) l yX0_put wsX0_put rmX0_put G xY [.ref (G.2.2.1 i0), .int p1, .int p2] σ τ :=
  MV.of RX0 (by decide) rfl rfl (Nat.le_of_ble_eq_true rfl) rfl rfl (fun p e s m below meth c hC => w_X0_put  hG hO0 hC h)
abbrev rmX0_change : Room := { frames := 2, cells := 0, slots := 0, locals := 43 }
def c_X0_change (i0 : Nat) (p1 : Int32) (p2 : Int32) (σ : HS) : Option HS := (bi2 (c_X0_at i0 p1 σ) (fun r3 s2 => (bi2 (c_X0_at i0 p2 s2) (fun r6 s5 => (bi1 (c_X0_put i0 p1 r6 s5) (fun s8 => (bi1 (c_X0_put i0 p2 r3 s8) (fun s10 => (some s10)))))))))
set_option maxHeartbeats 4000000 in
set_option maxRecDepth 100000 in
theorem w_X0_change {adK adV : Nat → Nat} {tb : Nat} {p : Program} {l : Launch} {e : Env} {s : State} {m : MethodId} {args : Array Value} {below : List Frame} {meth : Method} {c : Code} {A : Nat → Prop} {G : WD}  {τ : HS} {i0 : Nat} {p1 : Int32} {p2 : Int32} {σ : HS}  (hG : GX G xY) (hO0 : Ob G xY i0 0) (hC : Cx (xE adK adV tb) G.1 G.2.1 xY cX0_change 4 none RX0 wsX0_change p s m args meth c A) (h : c_X0_change i0 p1 p2 σ = some τ) : V p l e rmX0_change s m args below meth c 4 A G xY 0 0 (MQ below (QV G xY A τ) args s 0 0 A) σ 0 [(0, .ref (G.2.2.1 i0)), (1, .int p1), (2, .int p2)] [] := by
  rw [c_X0_change] at h
  refine v_aload_n hC dX0_change_0 0 rfl ?_
  refine v_iload_n hC dX0_change_1 1 rfl ?_
  obtain ⟨r3, s2, hc_1, h⟩ := bd2 h
  refine v_callVI hC xE_ok (n := 1) (As := [.int p1]) (k_X0_at l hG (hO0) hc_1) (cwV 1 hC.1.2.2.2.2 gX0_change_X0_at rfl rfl rfl (by decide +kernel) ⟨(Nat.le_of_ble_eq_true rfl), (Nat.le_of_ble_eq_true rfl)⟩) hO0 (by decide) rfl rfl rfl (Nat.le_of_ble_eq_true rfl) ⟨Nat.zero_le _, Nat.zero_le _⟩ dX0_change_2 rfl ?_
  refine v_istore_n (L' := [(0, .ref (G.2.2.1 i0)), (1, .int p1), (2, .int p2), (3, .int r3)]) hC dX0_change_5 (by decide) [1, 2, 3, 0] rfl ?_
  refine v_aload_n hC dX0_change_6 0 rfl ?_
  refine v_iload_n hC dX0_change_7 1 rfl ?_
  refine v_aload_n hC dX0_change_8 0 rfl ?_
  refine v_iload_n hC dX0_change_9 2 rfl ?_
  obtain ⟨r6, s5, hc_4, h⟩ := bd2 h
  refine v_callVI hC xE_ok (n := 1) (As := [.int p2]) (k_X0_at l hG (hO0) hc_4) (cwV 1 hC.1.2.2.2.2 gX0_change_X0_at rfl rfl rfl (by decide +kernel) ⟨(Nat.le_of_ble_eq_true rfl), (Nat.le_of_ble_eq_true rfl)⟩) hO0 (by decide) rfl rfl rfl (Nat.le_of_ble_eq_true rfl) ⟨Nat.zero_le _, Nat.zero_le _⟩ dX0_change_10 rfl ?_
  obtain ⟨s8, hc_7, h⟩ := bd1 h
  refine v_callVV hC xE_ok (n := 2) (As := [.int p1, .int r6]) (k_X0_put l hG (hO0) hc_7) (cwV 2 hC.1.2.2.2.2 gX0_change_X0_put rfl rfl rfl (by decide +kernel) ⟨(Nat.le_of_ble_eq_true rfl), (Nat.le_of_ble_eq_true rfl)⟩) hO0 (by decide) rfl rfl rfl (Nat.le_of_ble_eq_true rfl) ⟨Nat.zero_le _, Nat.zero_le _⟩ dX0_change_13 rfl ?_
  refine v_aload_n hC dX0_change_16 0 rfl ?_
  refine v_iload_n hC dX0_change_17 2 rfl ?_
  refine v_iload_n hC dX0_change_18 3 rfl ?_
  obtain ⟨s10, hc_9, h⟩ := bd1 h
  refine v_callVV hC xE_ok (n := 2) (As := [.int p2, .int r3]) (k_X0_put l hG (hO0) hc_9) (cwV 2 hC.1.2.2.2.2 gX0_change_X0_put rfl rfl rfl (by decide +kernel) ⟨(Nat.le_of_ble_eq_true rfl), (Nat.le_of_ble_eq_true rfl)⟩) hO0 (by decide) rfl rfl rfl (Nat.le_of_ble_eq_true rfl) ⟨Nat.zero_le _, Nat.zero_le _⟩ dX0_change_19 rfl ?_
  exact v_vret hC rfl dX0_change_22 h
theorem k_X0_change {adK adV : Nat → Nat} {tb : Nat} (l : Launch) {G : WD}  {τ : HS} {i0 : Nat} {p1 : Int32} {p2 : Int32} {σ : HS}  (hG : GX G xY) (hO0 : Ob G xY i0 0) (h : c_X0_change i0 p1 p2 σ = some τ) : MV (xE adK adV tb) l yX0_change wsX0_change rmX0_change G xY [.ref (G.2.2.1 i0), .int p1, .int p2] σ τ :=
  MV.of RX0 (by decide) rfl rfl (Nat.le_of_ble_eq_true rfl) rfl rfl (fun p e s m below meth c hC => w_X0_change  hG hO0 hC h)
abbrev rmX0_ringLength : Room := { frames := 1, cells := 0, slots := 0, locals := 21 }
def c_X0_ringLength_8 : Nat → Nat → Int32 → Int32 → Int32 → HS → Option (Int32 × HS)
  | 0, _, _, _, _, _ => none
  | n + 1, i0, x1, x2, x3, σ => (if (gI σ i0 1) < x3 then (some (0, σ)) else (if x2 = (-1) then (some (0, σ)) else (if x2 = x1 then (some (x3, σ)) else (bi2 (c_X0_at i0 x2 σ) (fun r9 s8 => (c_X0_ringLength_8 n i0 x1 r9 (x3 + 1) s8))))))
set_option maxHeartbeats 4000000 in
set_option maxRecDepth 100000 in
theorem w_X0_ringLength_8 {adK adV : Nat → Nat} {tb : Nat} {p : Program} {l : Launch} {e : Env} {s : State} {m : MethodId} {args : Array Value} {below : List Frame} {meth : Method} {c : Code} {A : Nat → Prop} {G : WD}  {r0 : Int32} {τ : HS} {i0 : Nat}  (hG : GX G xY) (hO0 : Ob G xY i0 0) (hC : Cx (xE adK adV tb) G.1 G.2.1 xY cX0_ringLength 4 (some .int) RX0 wsX0_ringLength p s m args meth c A)  : ∀ (n : Nat) (x1 : Int32) (x2 : Int32) (x3 : Int32) (σ : HS), c_X0_ringLength_8 n i0 x1 x2 x3 σ = some (r0, τ) → V p l e rmX0_ringLength s m args below meth c 4 A G xY 0 0 (MQ below (QI G xY A r0 τ) args s 0 0 A) σ 8 [(0, .ref (G.2.2.1 i0)), (1, .int x1), (2, .int x2), (3, .int x3)] [] := by
  intro n
  induction n with
  | zero => intro x1 x2 x3 σ h; exact nof h
  | succ n ih =>
    intro x1 x2 x3 σ h
    rw [c_X0_ringLength_8] at h
    refine v_iload_n hC dX0_ringLength_8 3 rfl ?_
    refine v_aload_n hC dX0_ringLength_9 0 rfl ?_
    refine v_get (C := RX0) (T := TX0) (N := 5) (ci := 0) (k := 1) (v := .int (gI σ i0 1)) hC hO0 hi_X0_ringLength_X0 rfl (by decide) (by decide) rfl rfl fl15_X0_ringLength dX0_ringLength_10 rfl ?_
    refine v_icmp_gt (tgt := 40) hC dX0_ringLength_13 (by decide) (fun c_4 => ?_) (fun c_4 => ?_)
    · replace h := ift c_4 h
      refine v_iconst (v := 0) hC dX0_ringLength_40 (by decide) ?_
      exact v_iret hC rfl dX0_ringLength_41 h
    · replace h := ifn c_4 h
      refine v_iload_n hC dX0_ringLength_16 2 rfl ?_
      refine v_iconst (v := (-1)) hC dX0_ringLength_17 (by decide) ?_
      refine v_icmp_eq (tgt := 40) hC dX0_ringLength_18 (by decide) (fun c_5 => ?_) (fun c_5 => ?_)
      · replace h := ift c_5 h
        refine v_iconst (v := 0) hC dX0_ringLength_40 (by decide) ?_
        exact v_iret hC rfl dX0_ringLength_41 h
      · replace h := ifn c_5 h
        refine v_iload_n hC dX0_ringLength_21 2 rfl ?_
        refine v_iload_n hC dX0_ringLength_22 1 rfl ?_
        refine v_icmp_ne (tgt := 28) hC dX0_ringLength_23 (by decide) (fun c_6 => ?_) (fun c_6 => ?_)
        · replace h := ifn c_6 h
          refine v_aload_n hC dX0_ringLength_28 0 rfl ?_
          refine v_iload_n hC dX0_ringLength_29 2 rfl ?_
          obtain ⟨r9, s8, hc_7, h⟩ := bd2 h
          refine v_callVI hC xE_ok (n := 1) (As := [.int x2]) (k_X0_at l hG (hO0) hc_7) (cwV 1 hC.1.2.2.2.2 gX0_ringLength_X0_at rfl rfl rfl (by decide +kernel) ⟨(Nat.le_of_ble_eq_true rfl), (Nat.le_of_ble_eq_true rfl)⟩) hO0 (by decide) rfl rfl rfl (Nat.le_of_ble_eq_true rfl) ⟨Nat.zero_le _, Nat.zero_le _⟩ dX0_ringLength_30 rfl ?_
          refine v_istore_n (L' := [(0, .ref (G.2.2.1 i0)), (1, .int x1), (2, .int r9), (3, .int x3)]) hC dX0_ringLength_33 (by decide) [1, 2, 0, 3] rfl ?_
          refine v_iinc (v := (x3 + 1)) (L' := [(0, .ref (G.2.2.1 i0)), (1, .int x1), (2, .int r9), (3, .int (x3 + 1))]) hC dX0_ringLength_34 3 rfl rfl (by decide) [1, 2, 3, 0] rfl ?_
          refine v_goto (tgt := 8) hC dX0_ringLength_37 (by decide) ?_
          exact ih _ _ _ _ h
        · replace h := ift c_6 h
          refine v_iload_n hC dX0_ringLength_26 3 rfl ?_
          exact v_iret hC rfl dX0_ringLength_27 h
def c_X0_ringLength (i0 : Nat) (p1 : Int32) (σ : HS) : Option (Int32 × HS) := (bi2 (c_X0_at i0 p1 σ) (fun r3 s2 => (c_X0_ringLength_8 FU i0 p1 r3 1 s2)))
set_option maxHeartbeats 4000000 in
set_option maxRecDepth 100000 in
theorem w_X0_ringLength {adK adV : Nat → Nat} {tb : Nat} {p : Program} {l : Launch} {e : Env} {s : State} {m : MethodId} {args : Array Value} {below : List Frame} {meth : Method} {c : Code} {A : Nat → Prop} {G : WD}  {r0 : Int32} {τ : HS} {i0 : Nat} {p1 : Int32} {σ : HS}  (hG : GX G xY) (hO0 : Ob G xY i0 0) (hC : Cx (xE adK adV tb) G.1 G.2.1 xY cX0_ringLength 4 (some .int) RX0 wsX0_ringLength p s m args meth c A) (h : c_X0_ringLength i0 p1 σ = some (r0, τ)) : V p l e rmX0_ringLength s m args below meth c 4 A G xY 0 0 (MQ below (QI G xY A r0 τ) args s 0 0 A) σ 0 [(0, .ref (G.2.2.1 i0)), (1, .int p1)] [] := by
  rw [c_X0_ringLength] at h
  refine v_aload_n hC dX0_ringLength_0 0 rfl ?_
  refine v_iload_n hC dX0_ringLength_1 1 rfl ?_
  obtain ⟨r3, s2, hc_1, h⟩ := bd2 h
  refine v_callVI hC xE_ok (n := 1) (As := [.int p1]) (k_X0_at l hG (hO0) hc_1) (cwV 1 hC.1.2.2.2.2 gX0_ringLength_X0_at rfl rfl rfl (by decide +kernel) ⟨(Nat.le_of_ble_eq_true rfl), (Nat.le_of_ble_eq_true rfl)⟩) hO0 (by decide) rfl rfl rfl (Nat.le_of_ble_eq_true rfl) ⟨Nat.zero_le _, Nat.zero_le _⟩ dX0_ringLength_2 rfl ?_
  refine v_istore_n (L' := [(0, .ref (G.2.2.1 i0)), (1, .int p1), (2, .int r3)]) hC dX0_ringLength_5 (by decide) [1, 2, 0] rfl ?_
  refine v_iconst (v := 1) hC dX0_ringLength_6 (by decide) ?_
  refine v_istore_n (L' := [(0, .ref (G.2.2.1 i0)), (1, .int p1), (2, .int r3), (3, .int 1)]) hC dX0_ringLength_7 (by decide) [1, 2, 3, 0] rfl ?_
  exact w_X0_ringLength_8 hG (hO0) hC FU _ _ _ _ h
theorem k_X0_ringLength {adK adV : Nat → Nat} {tb : Nat} (l : Launch) {G : WD}  {r0 : Int32} {τ : HS} {i0 : Nat} {p1 : Int32} {σ : HS}  (hG : GX G xY) (hO0 : Ob G xY i0 0) (h : c_X0_ringLength i0 p1 σ = some (r0, τ)) : MI (xE adK adV tb) l yX0_ringLength wsX0_ringLength rmX0_ringLength G xY [.ref (G.2.2.1 i0), .int p1] σ r0 τ :=
  MI.of RX0 (by decide) rfl rfl (Nat.le_of_ble_eq_true rfl) rfl rfl (fun p e s m below meth c hC => w_X0_ringLength  hG hO0 hC h)
abbrev rmX0_digits : Room := { frames := 1, cells := 0, slots := 0, locals := 21 }
def c_X0_digits_4 : Nat → Nat → Int32 → Int32 → HS → Option (Int32 × HS)
  | 0, _, _, _, _ => none
  | n + 1, i0, x1, x2, σ => (if (gI σ i0 1) ≤ x2 then (some (x1, σ)) else (bi2 (c_X0_at i0 x2 σ) (fun r4 s3 => (c_X0_digits_4 n i0 (((10 * x1) + r4) + 1) (x2 + 1) s3))))
set_option maxHeartbeats 4000000 in
set_option maxRecDepth 100000 in
theorem w_X0_digits_4 {adK adV : Nat → Nat} {tb : Nat} {p : Program} {l : Launch} {e : Env} {s : State} {m : MethodId} {args : Array Value} {below : List Frame} {meth : Method} {c : Code} {A : Nat → Prop} {G : WD}  {r0 : Int32} {τ : HS} {i0 : Nat}  (hG : GX G xY) (hO0 : Ob G xY i0 0) (hC : Cx (xE adK adV tb) G.1 G.2.1 xY cX0_digits 3 (some .int) RX0 wsX0_digits p s m args meth c A)  : ∀ (n : Nat) (x1 : Int32) (x2 : Int32) (σ : HS), c_X0_digits_4 n i0 x1 x2 σ = some (r0, τ) → V p l e rmX0_digits s m args below meth c 3 A G xY 0 0 (MQ below (QI G xY A r0 τ) args s 0 0 A) σ 4 [(0, .ref (G.2.2.1 i0)), (1, .int x1), (2, .int x2)] [] := by
  intro n
  induction n with
  | zero => intro x1 x2 σ h; exact nof h
  | succ n ih =>
    intro x1 x2 σ h
    rw [c_X0_digits_4] at h
    refine v_iload_n hC dX0_digits_4 2 rfl ?_
    refine v_aload_n hC dX0_digits_5 0 rfl ?_
    refine v_get (C := RX0) (T := TX0) (N := 5) (ci := 0) (k := 1) (v := .int (gI σ i0 1)) hC hO0 hi_X0_digits_X0 rfl (by decide) (by decide) rfl rfl fl15_X0_digits dX0_digits_6 rfl ?_
    refine v_icmp_ge (tgt := 31) hC dX0_digits_9 (by decide) (fun c_1 => ?_) (fun c_1 => ?_)
    · replace h := ift c_1 h
      refine v_iload_n hC dX0_digits_31 1 rfl ?_
      exact v_iret hC rfl dX0_digits_32 h
    · replace h := ifn c_1 h
      refine v_bipush (v := 10) hC dX0_digits_12 (by decide) ?_
      refine v_iload_n hC dX0_digits_14 1 rfl ?_
      refine v_imul hC dX0_digits_15 ?_
      refine v_aload_n hC dX0_digits_16 0 rfl ?_
      refine v_iload_n hC dX0_digits_17 2 rfl ?_
      obtain ⟨r4, s3, hc_2, h⟩ := bd2 h
      refine v_callVI hC xE_ok (n := 1) (As := [.int x2]) (k_X0_at l hG (hO0) hc_2) (cwV 1 hC.1.2.2.2.2 gX0_digits_X0_at rfl rfl rfl (by decide +kernel) ⟨(Nat.le_of_ble_eq_true rfl), (Nat.le_of_ble_eq_true rfl)⟩) hO0 (by decide) rfl rfl rfl (Nat.le_of_ble_eq_true rfl) ⟨Nat.zero_le _, Nat.zero_le _⟩ dX0_digits_18 rfl ?_
      refine v_iadd hC dX0_digits_21 ?_
      refine v_iconst (v := 1) hC dX0_digits_22 (by decide) ?_
      refine v_iadd hC dX0_digits_23 ?_
      refine v_istore_n (L' := [(0, .ref (G.2.2.1 i0)), (1, .int (((10 * x1) + r4) + 1)), (2, .int x2)]) hC dX0_digits_24 (by decide) [1, 0, 2] rfl ?_
      refine v_iinc (v := (x2 + 1)) (L' := [(0, .ref (G.2.2.1 i0)), (1, .int (((10 * x1) + r4) + 1)), (2, .int (x2 + 1))]) hC dX0_digits_25 2 rfl rfl (by decide) [1, 2, 0] rfl ?_
      refine v_goto (tgt := 4) hC dX0_digits_28 (by decide) ?_
      exact ih _ _ _ h
def c_X0_digits (i0 : Nat) (σ : HS) : Option (Int32 × HS) := (c_X0_digits_4 FU i0 0 0 σ)
set_option maxHeartbeats 4000000 in
set_option maxRecDepth 100000 in
theorem w_X0_digits {adK adV : Nat → Nat} {tb : Nat} {p : Program} {l : Launch} {e : Env} {s : State} {m : MethodId} {args : Array Value} {below : List Frame} {meth : Method} {c : Code} {A : Nat → Prop} {G : WD}  {r0 : Int32} {τ : HS} {i0 : Nat} {σ : HS}  (hG : GX G xY) (hO0 : Ob G xY i0 0) (hC : Cx (xE adK adV tb) G.1 G.2.1 xY cX0_digits 3 (some .int) RX0 wsX0_digits p s m args meth c A) (h : c_X0_digits i0 σ = some (r0, τ)) : V p l e rmX0_digits s m args below meth c 3 A G xY 0 0 (MQ below (QI G xY A r0 τ) args s 0 0 A) σ 0 [(0, .ref (G.2.2.1 i0))] [] := by
  rw [c_X0_digits] at h
  refine v_iconst (v := 0) hC dX0_digits_0 (by decide) ?_
  refine v_istore_n (L' := [(0, .ref (G.2.2.1 i0)), (1, .int 0)]) hC dX0_digits_1 (by decide) [1, 0] rfl ?_
  refine v_iconst (v := 0) hC dX0_digits_2 (by decide) ?_
  refine v_istore_n (L' := [(0, .ref (G.2.2.1 i0)), (1, .int 0), (2, .int 0)]) hC dX0_digits_3 (by decide) [1, 2, 0] rfl ?_
  exact w_X0_digits_4 hG (hO0) hC FU _ _ _ h
theorem k_X0_digits {adK adV : Nat → Nat} {tb : Nat} (l : Launch) {G : WD}  {r0 : Int32} {τ : HS} {i0 : Nat} {σ : HS}  (hG : GX G xY) (hO0 : Ob G xY i0 0) (h : c_X0_digits i0 σ = some (r0, τ)) : MI (xE adK adV tb) l yX0_digits wsX0_digits rmX0_digits G xY [.ref (G.2.2.1 i0)] σ r0 τ :=
  MI.of RX0 (by decide) rfl rfl (Nat.le_of_ble_eq_true rfl) rfl rfl (fun p e s m below meth c hC => w_X0_digits  hG hO0 hC h)
abbrev rmX0_layOwn : Room := { frames := 1, cells := 0, slots := 0, locals := 30 }
def c_X0_layOwn_16 : Nat → Nat → Int32 → HS → Option HS
  | 0, _, _, _ => none
  | n + 1, i0, x2, σ => (if (gI σ i0 1) ≤ x2 then (some σ) else (if inb x2 12 = true then (lt (sI σ (i0 + 1) (ix x2) x2) (fun s5 => (c_X0_layOwn_16 n i0 (x2 + 1) s5))) else none))
set_option maxHeartbeats 4000000 in
set_option maxRecDepth 100000 in
theorem w_X0_layOwn_16 {adK adV : Nat → Nat} {tb : Nat} {p : Program} {l : Launch} {e : Env} {s : State} {m : MethodId} {args : Array Value} {below : List Frame} {meth : Method} {c : Code} {A : Nat → Prop} {G : WD}  {τ : HS} {i0 : Nat}  (hG : GX G xY) (hO0 : Ob G xY i0 0) (hC : Cx (xE adK adV tb) G.1 G.2.1 xY cX0_layOwn 3 none RX0 wsX0_layOwn p s m args meth c A)  : ∀ (n : Nat) (x2 : Int32) (σ : HS), c_X0_layOwn_16 n i0 x2 σ = some τ → V p l e rmX0_layOwn s m args below meth c 3 A G xY 0 0 (MQ below (QV G xY A τ) args s 0 0 A) σ 16 [(0, .ref (G.2.2.1 i0)), (2, .int x2)] [] := by
  intro n
  induction n with
  | zero => intro x2 σ h; exact nof h
  | succ n ih =>
    intro x2 σ h
    rw [c_X0_layOwn_16] at h
    refine v_iload_n hC dX0_layOwn_16 1 rfl ?_
    refine v_aload_n hC dX0_layOwn_17 0 rfl ?_
    refine v_get (C := RX0) (T := TX0) (N := 5) (ci := 0) (k := 1) (v := .int (gI σ i0 1)) hC hO0 hi_X0_layOwn_X0 rfl (by decide) (by decide) rfl rfl fl15_X0_layOwn dX0_layOwn_18 rfl ?_
    refine v_icmp_ge (tgt := 37) hC dX0_layOwn_21 (by decide) (fun c_3 => ?_) (fun c_3 => ?_)
    · replace h := ift c_3 h
      exact v_vret hC rfl dX0_layOwn_37 h
    · replace h := ifn c_3 h
      refine v_aload_n hC dX0_layOwn_24 0 rfl ?_
      refine v_get (C := RX0) (T := TX0) (N := 5) (ci := 0) (k := 0) (v := .ref (G.2.2.1 (i0 + 1))) hC hO0 hi_X0_layOwn_X0 rfl (by decide) (by decide) rfl rfl fl9_X0_layOwn dX0_layOwn_25 rfl ?_
      refine v_iload_n hC dX0_layOwn_28 1 rfl ?_
      refine v_iload_n hC dX0_layOwn_29 1 rfl ?_
      obtain ⟨g_4, h⟩ := gd h
      refine v_iast hC (obX_0_0 hG hO0).1 (obX_0_0 hG hO0).2 (t0 := 0) rfl g_4 dX0_layOwn_30 ?_
      obtain ⟨s5, e6, h⟩ := ld h
      refine V.eq e6 ?_
      refine v_iinc (v := (x2 + 1)) (L' := [(0, .ref (G.2.2.1 i0)), (2, .int (x2 + 1))]) hC dX0_layOwn_31 1 rfl rfl (by decide) [1, 0] rfl ?_
      refine v_goto (tgt := 16) hC dX0_layOwn_34 (by decide) ?_
      exact ih _ _ h
def c_X0_layOwn (i0 : Nat) (p1 : Int32) (σ : HS) : Option HS := (lt (sI σ i0 1 (jxmax 0 (jxmin p1 12))) (fun s1 => (c_X0_layOwn_16 FU i0 0 s1)))
set_option maxHeartbeats 4000000 in
set_option maxRecDepth 100000 in
theorem w_X0_layOwn {adK adV : Nat → Nat} {tb : Nat} {p : Program} {l : Launch} {e : Env} {s : State} {m : MethodId} {args : Array Value} {below : List Frame} {meth : Method} {c : Code} {A : Nat → Prop} {G : WD}  {τ : HS} {i0 : Nat} {p1 : Int32} {σ : HS}  (hG : GX G xY) (hO0 : Ob G xY i0 0) (hC : Cx (xE adK adV tb) G.1 G.2.1 xY cX0_layOwn 3 none RX0 wsX0_layOwn p s m args meth c A) (h : c_X0_layOwn i0 p1 σ = some τ) : V p l e rmX0_layOwn s m args below meth c 3 A G xY 0 0 (MQ below (QV G xY A τ) args s 0 0 A) σ 0 [(0, .ref (G.2.2.1 i0)), (1, .int p1)] [] := by
  rw [c_X0_layOwn] at h
  refine v_aload_n hC dX0_layOwn_0 0 rfl ?_
  refine v_iconst (v := 0) hC dX0_layOwn_1 (by decide) ?_
  refine v_iload_n hC dX0_layOwn_2 1 rfl ?_
  refine v_bipush (v := 12) hC dX0_layOwn_3 (by decide) ?_
  refine v_min hC mx19_X0_layOwn.1 mx19_X0_layOwn.2.1 mx19_X0_layOwn.2.2.1 mx19_X0_layOwn.2.2.2 (Nat.le_of_ble_eq_true rfl) (Nat.le_of_ble_eq_true rfl) ⟨Nat.zero_le _, Nat.zero_le _⟩ dX0_layOwn_5 ?_
  refine v_max hC mx25_X0_layOwn.1 mx25_X0_layOwn.2.1 mx25_X0_layOwn.2.2.1 mx25_X0_layOwn.2.2.2 (Nat.le_of_ble_eq_true rfl) (Nat.le_of_ble_eq_true rfl) ⟨Nat.zero_le _, Nat.zero_le _⟩ dX0_layOwn_8 ?_
  refine v_putI (C := RX0) (T := TX0) (N := 5) (ci := 0) (k := 1) (ty := .int) hC hO0 hi_X0_layOwn_X0 rfl (by decide) (by decide) rfl rfl tyX0_ok nmX0 fl15_X0_layOwn rfl rfl rfl rfl rfl dX0_layOwn_11 ?_
  obtain ⟨s1, e2, h⟩ := ld h
  refine V.eq e2 ?_
  refine v_iconst (v := 0) hC dX0_layOwn_14 (by decide) ?_
  refine v_istore_n (L' := [(0, .ref (G.2.2.1 i0)), (2, .int 0)]) hC dX0_layOwn_15 (by decide) [1, 0] rfl ?_
  exact w_X0_layOwn_16 hG (hO0) hC FU _ _ h
theorem k_X0_layOwn {adK adV : Nat → Nat} {tb : Nat} (l : Launch) {G : WD}  {τ : HS} {i0 : Nat} {p1 : Int32} {σ : HS}  (hG : GX G xY) (hO0 : Ob G xY i0 0) (h : c_X0_layOwn i0 p1 σ = some τ) : MV (xE adK adV tb) l yX0_layOwn wsX0_layOwn rmX0_layOwn G xY [.ref (G.2.2.1 i0), .int p1] σ τ :=
  MV.of RX0 (by decide) rfl rfl (Nat.le_of_ble_eq_true rfl) rfl rfl (fun p e s m below meth c hC => w_X0_layOwn  hG hO0 hC h)
abbrev rmX0_layAs : Room := { frames := 1, cells := 0, slots := 0, locals := 60 }
def c_X0_layAs (i0 : Nat) (i1 : Nat) (σ : HS) : Option HS := (lt (sI σ i0 1 (gI σ i1 1)) (fun s1 => (if cpo 0 0 12 12 12 = true then (lt (sA s1 (i0 + 1) (va_cpy (gI s1 (i1 + 1)) (gI s1 (i0 + 1)) (ix 0) (ix 0) (ix 12))) (fun s4 => (some s4))) else none)))
set_option maxHeartbeats 4000000 in
set_option maxRecDepth 100000 in
theorem w_X0_layAs {adK adV : Nat → Nat} {tb : Nat} {p : Program} {l : Launch} {e : Env} {s : State} {m : MethodId} {args : Array Value} {below : List Frame} {meth : Method} {c : Code} {A : Nat → Prop} {G : WD}  {τ : HS} {i0 : Nat} {i1 : Nat} {σ : HS}  (hG : GX G xY) (hO0 : Ob G xY i0 0) (hO1 : Ob G xY i1 0) (hC : Cx (xE adK adV tb) G.1 G.2.1 xY cX0_layAs 2 none RX0 wsX0_layAs p s m args meth c A) (h : c_X0_layAs i0 i1 σ = some τ) : V p l e rmX0_layAs s m args below meth c 2 A G xY 0 0 (MQ below (QV G xY A τ) args s 0 0 A) σ 0 [(0, .ref (G.2.2.1 i0)), (1, .ref (G.2.2.1 i1))] [] := by
  rw [c_X0_layAs] at h
  refine v_aload_n hC dX0_layAs_0 0 rfl ?_
  refine v_aload_n hC dX0_layAs_1 1 rfl ?_
  refine v_get (C := RX0) (T := TX0) (N := 5) (ci := 0) (k := 1) (v := .int (gI σ i1 1)) hC hO1 hi_X0_layAs_X0 rfl (by decide) (by decide) rfl rfl fl15_X0_layAs dX0_layAs_2 rfl ?_
  refine v_putI (C := RX0) (T := TX0) (N := 5) (ci := 0) (k := 1) (ty := .int) hC hO0 hi_X0_layAs_X0 rfl (by decide) (by decide) rfl rfl tyX0_ok nmX0 fl15_X0_layAs rfl rfl rfl rfl rfl dX0_layAs_5 ?_
  obtain ⟨s1, e2, h⟩ := ld h
  refine V.eq e2 ?_
  refine v_aload_n hC dX0_layAs_8 1 rfl ?_
  refine v_get (C := RX0) (T := TX0) (N := 5) (ci := 0) (k := 0) (v := .ref (G.2.2.1 (i1 + 1))) hC hO1 hi_X0_layAs_X0 rfl (by decide) (by decide) rfl rfl fl9_X0_layAs dX0_layAs_9 rfl ?_
  refine v_iconst (v := 0) hC dX0_layAs_12 (by decide) ?_
  refine v_aload_n hC dX0_layAs_13 0 rfl ?_
  refine v_get (C := RX0) (T := TX0) (N := 5) (ci := 0) (k := 0) (v := .ref (G.2.2.1 (i0 + 1))) hC hO0 hi_X0_layAs_X0 rfl (by decide) (by decide) rfl rfl fl9_X0_layAs dX0_layAs_14 rfl ?_
  refine v_iconst (v := 0) hC dX0_layAs_17 (by decide) ?_
  refine v_bipush (v := 12) hC dX0_layAs_18 (by decide) ?_
  obtain ⟨g_3, h⟩ := gd h
  refine v_copy hC (obX_0_0 hG hO1).1 (obX_0_0 hG hO0).1 (obX_0_0 hG hO1).2 (obX_0_0 hG hO0).2 (t0 := 0) rfl ac28_X0_layAs.1 ac28_X0_layAs.2.1 ac28_X0_layAs.2.2.1 ac28_X0_layAs.2.2.2 (cpo_s g_3).1 (cpo_s g_3).2.1 (cpo_s g_3).2.2.1 (cpo_s g_3).2.2.2.1 (cpo_s g_3).2.2.2.2 rfl (Nat.le_of_ble_eq_true rfl) (Nat.le_of_ble_eq_true rfl) dX0_layAs_20 ?_
  obtain ⟨s4, e5, h⟩ := ld h
  refine V.eq e5 ?_
  exact v_vret hC rfl dX0_layAs_23 h
theorem k_X0_layAs {adK adV : Nat → Nat} {tb : Nat} (l : Launch) {G : WD}  {τ : HS} {i0 : Nat} {i1 : Nat} {σ : HS}  (hG : GX G xY) (hO0 : Ob G xY i0 0) (hO1 : Ob G xY i1 0) (h : c_X0_layAs i0 i1 σ = some τ) : MV (xE adK adV tb) l yX0_layAs wsX0_layAs rmX0_layAs G xY [.ref (G.2.2.1 i0), .ref (G.2.2.1 i1)] σ τ :=
  MV.of RX0 (by decide) rfl rfl (Nat.le_of_ble_eq_true rfl) rfl rfl (fun p e s m below meth c hC => w_X0_layAs  hG hO0 hO1 hC h)
abbrev rmX0_survey : Room := { frames := 1, cells := 0, slots := 0, locals := 30 }
def c_X0_survey_127 (k19 : Int32 → Int32 → HS → Option HS) (i0 : Nat) (x1 : Int32) (x2 : Int32) (σ : HS) : Option HS := (k19 x1 (x2 + 1) σ)
set_option maxHeartbeats 4000000 in
set_option maxRecDepth 100000 in
theorem w_X0_survey_127 {adK adV : Nat → Nat} {tb : Nat} {p : Program} {l : Launch} {e : Env} {s : State} {m : MethodId} {args : Array Value} {below : List Frame} {meth : Method} {c : Code} {A : Nat → Prop} {G : WD}  {τ : HS} {i0 : Nat} {k19 : Int32 → Int32 → HS → Option HS} {x1 : Int32} {x2 : Int32} {σ : HS}  (hG : GX G xY) (hO0 : Ob G xY i0 0) (hC : Cx (xE adK adV tb) G.1 G.2.1 xY cX0_survey 5 none RX0 wsX0_survey p s m args meth c A) (hk19 : ∀ (x1 : Int32) (x2 : Int32) (σ : HS), k19 x1 x2 σ = some τ → V p l e rmX0_survey s m args below meth c 5 A G xY 0 0 (MQ below (QV G xY A τ) args s 0 0 A) σ 19 [(0, .ref (G.2.2.1 i0)), (1, .int x1), (2, .int x2)] []) (h : c_X0_survey_127 k19 i0 x1 x2 σ = some τ) : V p l e rmX0_survey s m args below meth c 5 A G xY 0 0 (MQ below (QV G xY A τ) args s 0 0 A) σ 127 [(0, .ref (G.2.2.1 i0)), (1, .int x1), (2, .int x2)] [] := by
  rw [c_X0_survey_127] at h
  refine v_iinc (v := (x2 + 1)) (L' := [(0, .ref (G.2.2.1 i0)), (1, .int x1), (2, .int (x2 + 1))]) hC dX0_survey_127 2 rfl rfl (by decide) [1, 2, 0] rfl ?_
  refine v_goto (tgt := 19) hC dX0_survey_130 (by decide) ?_
  exact hk19 _ _ _ h
def c_X0_survey_99 (k19 : Int32 → Int32 → HS → Option HS) (i0 : Nat) (x1 : Int32) (x2 : Int32) (x3 : Int32) (x4 : Int32) (σ : HS) : Option HS := (if x3 = x2 then (lt (sI σ i0 2 ((gI σ i0 2) + 1)) (fun s22 => (lt (sI s22 i0 3 (jxmax (gI s22 i0 3) x4)) (fun s24 => (c_X0_survey_127 k19 i0 x1 x2 s24))))) else (c_X0_survey_127 k19 i0 x1 x2 σ))
set_option maxHeartbeats 4000000 in
set_option maxRecDepth 100000 in
theorem w_X0_survey_99 {adK adV : Nat → Nat} {tb : Nat} {p : Program} {l : Launch} {e : Env} {s : State} {m : MethodId} {args : Array Value} {below : List Frame} {meth : Method} {c : Code} {A : Nat → Prop} {G : WD}  {τ : HS} {i0 : Nat} {k19 : Int32 → Int32 → HS → Option HS} {x1 : Int32} {x2 : Int32} {x3 : Int32} {x4 : Int32} {σ : HS}  (hG : GX G xY) (hO0 : Ob G xY i0 0) (hC : Cx (xE adK adV tb) G.1 G.2.1 xY cX0_survey 5 none RX0 wsX0_survey p s m args meth c A) (hk19 : ∀ (x1 : Int32) (x2 : Int32) (σ : HS), k19 x1 x2 σ = some τ → V p l e rmX0_survey s m args below meth c 5 A G xY 0 0 (MQ below (QV G xY A τ) args s 0 0 A) σ 19 [(0, .ref (G.2.2.1 i0)), (1, .int x1), (2, .int x2)] []) (h : c_X0_survey_99 k19 i0 x1 x2 x3 x4 σ = some τ) : V p l e rmX0_survey s m args below meth c 5 A G xY 0 0 (MQ below (QV G xY A τ) args s 0 0 A) σ 99 [(0, .ref (G.2.2.1 i0)), (1, .int x1), (2, .int x2), (3, .int x3), (4, .int x4)] [] := by
  rw [c_X0_survey_99] at h
  refine v_iload_n hC dX0_survey_99 3 rfl ?_
  refine v_iload_n hC dX0_survey_100 2 rfl ?_
  refine v_icmp_ne (tgt := 127) hC dX0_survey_101 (by decide) (fun c_21 => ?_) (fun c_21 => ?_)
  · replace h := ifn c_21 h
    refine V.sub (L' := [(0, .ref (G.2.2.1 i0)), (1, .int x1), (2, .int x2)]) [0, 1, 2] rfl ?_
    exact w_X0_survey_127 hG (hO0) hC hk19 h
  · replace h := ift c_21 h
    refine v_aload_n hC dX0_survey_104 0 rfl ?_
    refine v_dup hC dX0_survey_105 rfl ?_
    refine v_get (C := RX0) (T := TX0) (N := 5) (ci := 0) (k := 2) (v := .int (gI σ i0 2)) hC hO0 hi_X0_survey_X0 rfl (by decide) (by decide) rfl rfl fl46_X0_survey dX0_survey_106 rfl ?_
    refine v_iconst (v := 1) hC dX0_survey_109 (by decide) ?_
    refine v_iadd hC dX0_survey_110 ?_
    refine v_putI (C := RX0) (T := TX0) (N := 5) (ci := 0) (k := 2) (ty := .int) hC hO0 hi_X0_survey_X0 rfl (by decide) (by decide) rfl rfl tyX0_ok nmX0 fl46_X0_survey rfl rfl rfl rfl rfl dX0_survey_111 ?_
    obtain ⟨s22, e23, h⟩ := ld h
    refine V.eq e23 ?_
    refine v_aload_n hC dX0_survey_114 0 rfl ?_
    refine v_aload_n hC dX0_survey_115 0 rfl ?_
    refine v_get (C := RX0) (T := TX0) (N := 5) (ci := 0) (k := 3) (v := .int (gI s22 i0 3)) hC hO0 hi_X0_survey_X0 rfl (by decide) (by decide) rfl rfl fl49_X0_survey dX0_survey_116 rfl ?_
    refine v_iload hC dX0_survey_119 4 rfl ?_
    refine v_max hC mx25_X0_survey.1 mx25_X0_survey.2.1 mx25_X0_survey.2.2.1 mx25_X0_survey.2.2.2 (Nat.le_of_ble_eq_true rfl) (Nat.le_of_ble_eq_true rfl) ⟨Nat.zero_le _, Nat.zero_le _⟩ dX0_survey_121 ?_
    refine v_putI (C := RX0) (T := TX0) (N := 5) (ci := 0) (k := 3) (ty := .int) hC hO0 hi_X0_survey_X0 rfl (by decide) (by decide) rfl rfl tyX0_ok nmX0 fl49_X0_survey rfl rfl rfl rfl rfl dX0_survey_124 ?_
    obtain ⟨s24, e25, h⟩ := ld h
    refine V.eq e25 ?_
    refine V.sub (L' := [(0, .ref (G.2.2.1 i0)), (1, .int x1), (2, .int x2)]) [0, 1, 2] rfl ?_
    exact w_X0_survey_127 hG (hO0) hC hk19 h
def c_X0_survey_59 (k19 : Int32 → Int32 → HS → Option HS) : Nat → Nat → Int32 → Int32 → Int32 → Int32 → HS → Option HS
  | 0, _, _, _, _, _, _ => none
  | n + 1, i0, x1, x2, x3, x4, σ => (if (gI σ i0 1) ≤ x4 then (c_X0_survey_99 k19 i0 x1 x2 x3 x4 σ) else (if x3 = (-1) then (c_X0_survey_99 k19 i0 x1 x2 x3 x4 σ) else (if ((x1 >>> (x3 &&& 31)) &&& 1) = 0 then (bi2 (c_X0_at i0 x3 σ) (fun r20 s19 => (c_X0_survey_59 k19 n i0 (x1 ||| (1 <<< (x3 &&& 31))) x2 r20 (x4 + 1) s19))) else (c_X0_survey_99 k19 i0 x1 x2 x3 x4 σ))))
set_option maxHeartbeats 4000000 in
set_option maxRecDepth 100000 in
theorem w_X0_survey_59 {adK adV : Nat → Nat} {tb : Nat} {p : Program} {l : Launch} {e : Env} {s : State} {m : MethodId} {args : Array Value} {below : List Frame} {meth : Method} {c : Code} {A : Nat → Prop} {G : WD}  {τ : HS} {i0 : Nat} {k19 : Int32 → Int32 → HS → Option HS}  (hG : GX G xY) (hO0 : Ob G xY i0 0) (hC : Cx (xE adK adV tb) G.1 G.2.1 xY cX0_survey 5 none RX0 wsX0_survey p s m args meth c A) (hk19 : ∀ (x1 : Int32) (x2 : Int32) (σ : HS), k19 x1 x2 σ = some τ → V p l e rmX0_survey s m args below meth c 5 A G xY 0 0 (MQ below (QV G xY A τ) args s 0 0 A) σ 19 [(0, .ref (G.2.2.1 i0)), (1, .int x1), (2, .int x2)] []) : ∀ (n : Nat) (x1 : Int32) (x2 : Int32) (x3 : Int32) (x4 : Int32) (σ : HS), c_X0_survey_59 k19 n i0 x1 x2 x3 x4 σ = some τ → V p l e rmX0_survey s m args below meth c 5 A G xY 0 0 (MQ below (QV G xY A τ) args s 0 0 A) σ 59 [(0, .ref (G.2.2.1 i0)), (1, .int x1), (2, .int x2), (3, .int x3), (4, .int x4)] [] := by
  intro n
  induction n with
  | zero => intro x1 x2 x3 x4 σ h; exact nof h
  | succ n ih =>
    intro x1 x2 x3 x4 σ h
    rw [c_X0_survey_59] at h
    refine v_iload hC dX0_survey_59 4 rfl ?_
    refine v_aload_n hC dX0_survey_61 0 rfl ?_
    refine v_get (C := RX0) (T := TX0) (N := 5) (ci := 0) (k := 1) (v := .int (gI σ i0 1)) hC hO0 hi_X0_survey_X0 rfl (by decide) (by decide) rfl rfl fl15_X0_survey dX0_survey_62 rfl ?_
    refine v_icmp_ge (tgt := 99) hC dX0_survey_65 (by decide) (fun c_15 => ?_) (fun c_15 => ?_)
    · replace h := ift c_15 h
      exact w_X0_survey_99 hG (hO0) hC hk19 h
    · replace h := ifn c_15 h
      refine v_iload_n hC dX0_survey_68 3 rfl ?_
      refine v_iconst (v := (-1)) hC dX0_survey_69 (by decide) ?_
      refine v_icmp_eq (tgt := 99) hC dX0_survey_70 (by decide) (fun c_16 => ?_) (fun c_16 => ?_)
      · replace h := ift c_16 h
        exact w_X0_survey_99 hG (hO0) hC hk19 h
      · replace h := ifn c_16 h
        refine v_iload_n hC dX0_survey_73 1 rfl ?_
        refine v_iload_n hC dX0_survey_74 3 rfl ?_
        refine v_ishr hC dX0_survey_75 ?_
        refine v_iconst (v := 1) hC dX0_survey_76 (by decide) ?_
        refine v_iand hC dX0_survey_77 ?_
        refine v_if_ne (tgt := 99) hC dX0_survey_78 (by decide) (fun c_17 => ?_) (fun c_17 => ?_)
        · replace h := ifn c_17 h
          exact w_X0_survey_99 hG (hO0) hC hk19 h
        · replace h := ift c_17 h
          refine v_iload_n hC dX0_survey_81 1 rfl ?_
          refine v_iconst (v := 1) hC dX0_survey_82 (by decide) ?_
          refine v_iload_n hC dX0_survey_83 3 rfl ?_
          refine v_ishl hC dX0_survey_84 ?_
          refine v_ior hC dX0_survey_85 ?_
          refine v_istore_n (L' := [(0, .ref (G.2.2.1 i0)), (1, .int (x1 ||| (1 <<< (x3 &&& 31)))), (2, .int x2), (3, .int x3), (4, .int x4)]) hC dX0_survey_86 (by decide) [1, 0, 2, 3, 4] rfl ?_
          refine v_aload_n hC dX0_survey_87 0 rfl ?_
          refine v_iload_n hC dX0_survey_88 3 rfl ?_
          obtain ⟨r20, s19, hc_18, h⟩ := bd2 h
          refine v_callVI hC xE_ok (n := 1) (As := [.int x3]) (k_X0_at l hG (hO0) hc_18) (cwV 1 hC.1.2.2.2.2 gX0_survey_X0_at rfl rfl rfl (by decide +kernel) ⟨(Nat.le_of_ble_eq_true rfl), (Nat.le_of_ble_eq_true rfl)⟩) hO0 (by decide) rfl rfl rfl (Nat.le_of_ble_eq_true rfl) ⟨Nat.zero_le _, Nat.zero_le _⟩ dX0_survey_89 rfl ?_
          refine v_istore_n (L' := [(0, .ref (G.2.2.1 i0)), (1, .int (x1 ||| (1 <<< (x3 &&& 31)))), (2, .int x2), (3, .int r20), (4, .int x4)]) hC dX0_survey_92 (by decide) [1, 2, 3, 0, 4] rfl ?_
          refine v_iinc (v := (x4 + 1)) (L' := [(0, .ref (G.2.2.1 i0)), (1, .int (x1 ||| (1 <<< (x3 &&& 31)))), (2, .int x2), (3, .int r20), (4, .int (x4 + 1))]) hC dX0_survey_93 4 rfl rfl (by decide) [1, 2, 3, 4, 0] rfl ?_
          refine v_goto (tgt := 59) hC dX0_survey_96 (by decide) ?_
          exact ih _ _ _ _ _ h
def c_X0_survey_46 (k19 : Int32 → Int32 → HS → Option HS) (i0 : Nat) (x1 : Int32) (x2 : Int32) (σ : HS) : Option HS := (if ((x1 >>> (x2 &&& 31)) &&& 1) = 0 then (c_X0_survey_59 k19 FU i0 x1 x2 x2 0 σ) else (c_X0_survey_127 k19 i0 x1 x2 σ))
set_option maxHeartbeats 4000000 in
set_option maxRecDepth 100000 in
theorem w_X0_survey_46 {adK adV : Nat → Nat} {tb : Nat} {p : Program} {l : Launch} {e : Env} {s : State} {m : MethodId} {args : Array Value} {below : List Frame} {meth : Method} {c : Code} {A : Nat → Prop} {G : WD}  {τ : HS} {i0 : Nat} {k19 : Int32 → Int32 → HS → Option HS} {x1 : Int32} {x2 : Int32} {σ : HS}  (hG : GX G xY) (hO0 : Ob G xY i0 0) (hC : Cx (xE adK adV tb) G.1 G.2.1 xY cX0_survey 5 none RX0 wsX0_survey p s m args meth c A) (hk19 : ∀ (x1 : Int32) (x2 : Int32) (σ : HS), k19 x1 x2 σ = some τ → V p l e rmX0_survey s m args below meth c 5 A G xY 0 0 (MQ below (QV G xY A τ) args s 0 0 A) σ 19 [(0, .ref (G.2.2.1 i0)), (1, .int x1), (2, .int x2)] []) (h : c_X0_survey_46 k19 i0 x1 x2 σ = some τ) : V p l e rmX0_survey s m args below meth c 5 A G xY 0 0 (MQ below (QV G xY A τ) args s 0 0 A) σ 46 [(0, .ref (G.2.2.1 i0)), (1, .int x1), (2, .int x2)] [] := by
  rw [c_X0_survey_46] at h
  refine v_iload_n hC dX0_survey_46 1 rfl ?_
  refine v_iload_n hC dX0_survey_47 2 rfl ?_
  refine v_ishr hC dX0_survey_48 ?_
  refine v_iconst (v := 1) hC dX0_survey_49 (by decide) ?_
  refine v_iand hC dX0_survey_50 ?_
  refine v_if_ne (tgt := 127) hC dX0_survey_51 (by decide) (fun c_14 => ?_) (fun c_14 => ?_)
  · replace h := ifn c_14 h
    exact w_X0_survey_127 hG (hO0) hC hk19 h
  · replace h := ift c_14 h
    refine v_iload_n hC dX0_survey_54 2 rfl ?_
    refine v_istore_n (L' := [(0, .ref (G.2.2.1 i0)), (1, .int x1), (2, .int x2), (3, .int x2)]) hC dX0_survey_55 (by decide) [1, 2, 3, 0] rfl ?_
    refine v_iconst (v := 0) hC dX0_survey_56 (by decide) ?_
    refine v_istore (L' := [(0, .ref (G.2.2.1 i0)), (1, .int x1), (2, .int x2), (3, .int x2), (4, .int 0)]) hC dX0_survey_57 (by decide) [1, 2, 3, 4, 0] rfl ?_
    exact w_X0_survey_59 hG (hO0) hC hk19 FU _ _ _ _ _ h
def c_X0_survey_19 : Nat → Nat → Int32 → Int32 → HS → Option HS
  | 0, _, _, _, _ => none
  | n + 1, i0, x1, x2, σ => (if (gI σ i0 1) ≤ x2 then (some σ) else (bi2 (c_X0_at i0 x2 σ) (fun r10 s9 => (if r10 = (-1) then (lt (sI s9 i0 4 ((gI s9 i0 4) + 1)) (fun s12 => (c_X0_survey_46 (fun z0 z1 z2 => c_X0_survey_19 n i0 z0 z1 z2) i0 x1 x2 s12))) else (c_X0_survey_46 (fun z0 z1 z2 => c_X0_survey_19 n i0 z0 z1 z2) i0 x1 x2 s9)))))
set_option maxHeartbeats 4000000 in
set_option maxRecDepth 100000 in
theorem w_X0_survey_19 {adK adV : Nat → Nat} {tb : Nat} {p : Program} {l : Launch} {e : Env} {s : State} {m : MethodId} {args : Array Value} {below : List Frame} {meth : Method} {c : Code} {A : Nat → Prop} {G : WD}  {τ : HS} {i0 : Nat}  (hG : GX G xY) (hO0 : Ob G xY i0 0) (hC : Cx (xE adK adV tb) G.1 G.2.1 xY cX0_survey 5 none RX0 wsX0_survey p s m args meth c A)  : ∀ (n : Nat) (x1 : Int32) (x2 : Int32) (σ : HS), c_X0_survey_19 n i0 x1 x2 σ = some τ → V p l e rmX0_survey s m args below meth c 5 A G xY 0 0 (MQ below (QV G xY A τ) args s 0 0 A) σ 19 [(0, .ref (G.2.2.1 i0)), (1, .int x1), (2, .int x2)] [] := by
  intro n
  induction n with
  | zero => intro x1 x2 σ h; exact nof h
  | succ n ih =>
    intro x1 x2 σ h
    rw [c_X0_survey_19] at h
    refine v_iload_n hC dX0_survey_19 2 rfl ?_
    refine v_aload_n hC dX0_survey_20 0 rfl ?_
    refine v_get (C := RX0) (T := TX0) (N := 5) (ci := 0) (k := 1) (v := .int (gI σ i0 1)) hC hO0 hi_X0_survey_X0 rfl (by decide) (by decide) rfl rfl fl15_X0_survey dX0_survey_21 rfl ?_
    refine v_icmp_ge (tgt := 133) hC dX0_survey_24 (by decide) (fun c_7 => ?_) (fun c_7 => ?_)
    · replace h := ift c_7 h
      exact v_vret hC rfl dX0_survey_133 h
    · replace h := ifn c_7 h
      refine v_aload_n hC dX0_survey_27 0 rfl ?_
      refine v_iload_n hC dX0_survey_28 2 rfl ?_
      obtain ⟨r10, s9, hc_8, h⟩ := bd2 h
      refine v_callVI hC xE_ok (n := 1) (As := [.int x2]) (k_X0_at l hG (hO0) hc_8) (cwV 1 hC.1.2.2.2.2 gX0_survey_X0_at rfl rfl rfl (by decide +kernel) ⟨(Nat.le_of_ble_eq_true rfl), (Nat.le_of_ble_eq_true rfl)⟩) hO0 (by decide) rfl rfl rfl (Nat.le_of_ble_eq_true rfl) ⟨Nat.zero_le _, Nat.zero_le _⟩ dX0_survey_29 rfl ?_
      refine v_iconst (v := (-1)) hC dX0_survey_32 (by decide) ?_
      refine v_icmp_ne (tgt := 46) hC dX0_survey_33 (by decide) (fun c_11 => ?_) (fun c_11 => ?_)
      · replace h := ifn c_11 h
        exact w_X0_survey_46 hG (hO0) hC (fun _ _ _ h => ih _ _ _ h) h
      · replace h := ift c_11 h
        refine v_aload_n hC dX0_survey_36 0 rfl ?_
        refine v_dup hC dX0_survey_37 rfl ?_
        refine v_get (C := RX0) (T := TX0) (N := 5) (ci := 0) (k := 4) (v := .int (gI s9 i0 4)) hC hO0 hi_X0_survey_X0 rfl (by decide) (by decide) rfl rfl fl52_X0_survey dX0_survey_38 rfl ?_
        refine v_iconst (v := 1) hC dX0_survey_41 (by decide) ?_
        refine v_iadd hC dX0_survey_42 ?_
        refine v_putI (C := RX0) (T := TX0) (N := 5) (ci := 0) (k := 4) (ty := .int) hC hO0 hi_X0_survey_X0 rfl (by decide) (by decide) rfl rfl tyX0_ok nmX0 fl52_X0_survey rfl rfl rfl rfl rfl dX0_survey_43 ?_
        obtain ⟨s12, e13, h⟩ := ld h
        refine V.eq e13 ?_
        exact w_X0_survey_46 hG (hO0) hC (fun _ _ _ h => ih _ _ _ h) h
def c_X0_survey (i0 : Nat) (σ : HS) : Option HS := (lt (sI σ i0 2 0) (fun s1 => (lt (sI s1 i0 3 0) (fun s3 => (lt (sI s3 i0 4 0) (fun s5 => (c_X0_survey_19 FU i0 0 0 s5)))))))
set_option maxHeartbeats 4000000 in
set_option maxRecDepth 100000 in
theorem w_X0_survey {adK adV : Nat → Nat} {tb : Nat} {p : Program} {l : Launch} {e : Env} {s : State} {m : MethodId} {args : Array Value} {below : List Frame} {meth : Method} {c : Code} {A : Nat → Prop} {G : WD}  {τ : HS} {i0 : Nat} {σ : HS}  (hG : GX G xY) (hO0 : Ob G xY i0 0) (hC : Cx (xE adK adV tb) G.1 G.2.1 xY cX0_survey 5 none RX0 wsX0_survey p s m args meth c A) (h : c_X0_survey i0 σ = some τ) : V p l e rmX0_survey s m args below meth c 5 A G xY 0 0 (MQ below (QV G xY A τ) args s 0 0 A) σ 0 [(0, .ref (G.2.2.1 i0))] [] := by
  rw [c_X0_survey] at h
  refine v_aload_n hC dX0_survey_0 0 rfl ?_
  refine v_iconst (v := 0) hC dX0_survey_1 (by decide) ?_
  refine v_putI (C := RX0) (T := TX0) (N := 5) (ci := 0) (k := 2) (ty := .int) hC hO0 hi_X0_survey_X0 rfl (by decide) (by decide) rfl rfl tyX0_ok nmX0 fl46_X0_survey rfl rfl rfl rfl rfl dX0_survey_2 ?_
  obtain ⟨s1, e2, h⟩ := ld h
  refine V.eq e2 ?_
  refine v_aload_n hC dX0_survey_5 0 rfl ?_
  refine v_iconst (v := 0) hC dX0_survey_6 (by decide) ?_
  refine v_putI (C := RX0) (T := TX0) (N := 5) (ci := 0) (k := 3) (ty := .int) hC hO0 hi_X0_survey_X0 rfl (by decide) (by decide) rfl rfl tyX0_ok nmX0 fl49_X0_survey rfl rfl rfl rfl rfl dX0_survey_7 ?_
  obtain ⟨s3, e4, h⟩ := ld h
  refine V.eq e4 ?_
  refine v_aload_n hC dX0_survey_10 0 rfl ?_
  refine v_iconst (v := 0) hC dX0_survey_11 (by decide) ?_
  refine v_putI (C := RX0) (T := TX0) (N := 5) (ci := 0) (k := 4) (ty := .int) hC hO0 hi_X0_survey_X0 rfl (by decide) (by decide) rfl rfl tyX0_ok nmX0 fl52_X0_survey rfl rfl rfl rfl rfl dX0_survey_12 ?_
  obtain ⟨s5, e6, h⟩ := ld h
  refine V.eq e6 ?_
  refine v_iconst (v := 0) hC dX0_survey_15 (by decide) ?_
  refine v_istore_n (L' := [(0, .ref (G.2.2.1 i0)), (1, .int 0)]) hC dX0_survey_16 (by decide) [1, 0] rfl ?_
  refine v_iconst (v := 0) hC dX0_survey_17 (by decide) ?_
  refine v_istore_n (L' := [(0, .ref (G.2.2.1 i0)), (1, .int 0), (2, .int 0)]) hC dX0_survey_18 (by decide) [1, 2, 0] rfl ?_
  exact w_X0_survey_19 hG (hO0) hC FU _ _ _ h
theorem k_X0_survey {adK adV : Nat → Nat} {tb : Nat} (l : Launch) {G : WD}  {τ : HS} {i0 : Nat} {σ : HS}  (hG : GX G xY) (hO0 : Ob G xY i0 0) (h : c_X0_survey i0 σ = some τ) : MV (xE adK adV tb) l yX0_survey wsX0_survey rmX0_survey G xY [.ref (G.2.2.1 i0)] σ τ :=
  MV.of RX0 (by decide) rfl rfl (Nat.le_of_ble_eq_true rfl) rfl rfl (fun p e s m below meth c hC => w_X0_survey  hG hO0 hC h)
abbrev rmX0_advance : Room := { frames := 3, cells := 0, slots := 0, locals := 66 }
def c_X0_advance_86 : Nat → Nat → Int32 → Int32 → HS → Option HS
  | 0, _, _, _, _ => none
  | n + 1, i0, x3, x4, σ => (if x3 ≤ x4 then (some σ) else (bi1 (c_X0_change i0 x4 x3 σ) (fun s22 => (c_X0_advance_86 n i0 (x3 + (-1)) (x4 + 1) s22))))
set_option maxHeartbeats 4000000 in
set_option maxRecDepth 100000 in
theorem w_X0_advance_86 {adK adV : Nat → Nat} {tb : Nat} {p : Program} {l : Launch} {e : Env} {s : State} {m : MethodId} {args : Array Value} {below : List Frame} {meth : Method} {c : Code} {A : Nat → Prop} {G : WD}  {τ : HS} {i0 : Nat}  (hG : GX G xY) (hO0 : Ob G xY i0 0) (hC : Cx (xE adK adV tb) G.1 G.2.1 xY cX0_advance 5 none RX0 wsX0_advance p s m args meth c A)  : ∀ (n : Nat) (x3 : Int32) (x4 : Int32) (σ : HS), c_X0_advance_86 n i0 x3 x4 σ = some τ → V p l e rmX0_advance s m args below meth c 5 A G xY 0 0 (MQ below (QV G xY A τ) args s 0 0 A) σ 86 [(0, .ref (G.2.2.1 i0)), (3, .int x3), (4, .int x4)] [] := by
  intro n
  induction n with
  | zero => intro x3 x4 σ h; exact nof h
  | succ n ih =>
    intro x3 x4 σ h
    rw [c_X0_advance_86] at h
    refine v_iload hC dX0_advance_86 2 rfl ?_
    refine v_iload_n hC dX0_advance_88 1 rfl ?_
    refine v_icmp_ge (tgt := 108) hC dX0_advance_89 (by decide) (fun c_20 => ?_) (fun c_20 => ?_)
    · replace h := ift c_20 h
      exact v_vret hC rfl dX0_advance_108 h
    · replace h := ifn c_20 h
      refine v_aload_n hC dX0_advance_92 0 rfl ?_
      refine v_iload hC dX0_advance_93 2 rfl ?_
      refine v_iload_n hC dX0_advance_95 1 rfl ?_
      obtain ⟨s22, hc_21, h⟩ := bd1 h
      refine v_callVV hC xE_ok (n := 2) (As := [.int x4, .int x3]) (k_X0_change l hG (hO0) hc_21) (cwV 2 hC.1.2.2.2.2 gX0_advance_X0_change rfl rfl rfl (by decide +kernel) ⟨(Nat.le_of_ble_eq_true rfl), (Nat.le_of_ble_eq_true rfl)⟩) hO0 (by decide) rfl rfl rfl (Nat.le_of_ble_eq_true rfl) ⟨Nat.zero_le _, Nat.zero_le _⟩ dX0_advance_96 rfl ?_
      refine v_iinc (v := (x3 + (-1))) (L' := [(0, .ref (G.2.2.1 i0)), (3, .int (x3 + (-1))), (4, .int x4)]) hC dX0_advance_99 1 rfl rfl (by decide) [1, 0, 2] rfl ?_
      refine v_iinc (v := (x4 + 1)) (L' := [(0, .ref (G.2.2.1 i0)), (3, .int (x3 + (-1))), (4, .int (x4 + 1))]) hC dX0_advance_102 2 rfl rfl (by decide) [1, 2, 0] rfl ?_
      refine v_goto (tgt := 86) hC dX0_advance_105 (by decide) ?_
      exact ih _ _ _ h
def c_X0_advance_68 (i0 : Nat) (x1 : Int32) (x2 : Int32) (σ : HS) : Option HS := (bi1 (c_X0_change i0 x1 x2 σ) (fun s19 => (c_X0_advance_86 FU i0 ((gI s19 i0 1) - 1) (x1 + 1) s19)))
set_option maxHeartbeats 4000000 in
set_option maxRecDepth 100000 in
theorem w_X0_advance_68 {adK adV : Nat → Nat} {tb : Nat} {p : Program} {l : Launch} {e : Env} {s : State} {m : MethodId} {args : Array Value} {below : List Frame} {meth : Method} {c : Code} {A : Nat → Prop} {G : WD}  {τ : HS} {i0 : Nat} {x1 : Int32} {x2 : Int32} {σ : HS}  (hG : GX G xY) (hO0 : Ob G xY i0 0) (hC : Cx (xE adK adV tb) G.1 G.2.1 xY cX0_advance 5 none RX0 wsX0_advance p s m args meth c A)  (h : c_X0_advance_68 i0 x1 x2 σ = some τ) : V p l e rmX0_advance s m args below meth c 5 A G xY 0 0 (MQ below (QV G xY A τ) args s 0 0 A) σ 68 [(0, .ref (G.2.2.1 i0)), (1, .int x1), (2, .int x2)] [] := by
  rw [c_X0_advance_68] at h
  refine v_aload_n hC dX0_advance_68 0 rfl ?_
  refine v_iload_n hC dX0_advance_69 1 rfl ?_
  refine v_iload_n hC dX0_advance_70 2 rfl ?_
  obtain ⟨s19, hc_18, h⟩ := bd1 h
  refine v_callVV hC xE_ok (n := 2) (As := [.int x1, .int x2]) (k_X0_change l hG (hO0) hc_18) (cwV 2 hC.1.2.2.2.2 gX0_advance_X0_change rfl rfl rfl (by decide +kernel) ⟨(Nat.le_of_ble_eq_true rfl), (Nat.le_of_ble_eq_true rfl)⟩) hO0 (by decide) rfl rfl rfl (Nat.le_of_ble_eq_true rfl) ⟨Nat.zero_le _, Nat.zero_le _⟩ dX0_advance_71 rfl ?_
  refine v_aload_n hC dX0_advance_74 0 rfl ?_
  refine v_get (C := RX0) (T := TX0) (N := 5) (ci := 0) (k := 1) (v := .int (gI s19 i0 1)) hC hO0 hi_X0_advance_X0 rfl (by decide) (by decide) rfl rfl fl15_X0_advance dX0_advance_75 rfl ?_
  refine v_iconst (v := 1) hC dX0_advance_78 (by decide) ?_
  refine v_isub hC dX0_advance_79 ?_
  refine v_istore_n (L' := [(0, .ref (G.2.2.1 i0)), (1, .int x1), (3, .int ((gI s19 i0 1) - 1))]) hC dX0_advance_80 (by decide) [1, 2, 0] rfl ?_
  refine v_iload_n hC dX0_advance_81 1 rfl ?_
  refine v_iconst (v := 1) hC dX0_advance_82 (by decide) ?_
  refine v_iadd hC dX0_advance_83 ?_
  refine v_istore (L' := [(0, .ref (G.2.2.1 i0)), (3, .int ((gI s19 i0 1) - 1)), (4, .int (x1 + 1))]) hC dX0_advance_84 (by decide) [1, 3, 0] rfl ?_
  exact w_X0_advance_86 hG (hO0) hC FU _ _ _ h
def c_X0_advance_44 : Nat → Nat → Int32 → Int32 → HS → Option HS
  | 0, _, _, _, _ => none
  | n + 1, i0, x1, x2, σ => (if x2 ≤ x1 then (c_X0_advance_68 i0 x1 x2 σ) else (bi2 (c_X0_at i0 x2 σ) (fun r13 s12 => (bi2 (c_X0_at i0 x1 s12) (fun r16 s15 => (if r16 ≤ r13 then (c_X0_advance_68 i0 x1 x2 s15) else (c_X0_advance_44 n i0 x1 (x2 + (-1)) s15)))))))
set_option maxHeartbeats 4000000 in
set_option maxRecDepth 100000 in
theorem w_X0_advance_44 {adK adV : Nat → Nat} {tb : Nat} {p : Program} {l : Launch} {e : Env} {s : State} {m : MethodId} {args : Array Value} {below : List Frame} {meth : Method} {c : Code} {A : Nat → Prop} {G : WD}  {τ : HS} {i0 : Nat}  (hG : GX G xY) (hO0 : Ob G xY i0 0) (hC : Cx (xE adK adV tb) G.1 G.2.1 xY cX0_advance 5 none RX0 wsX0_advance p s m args meth c A)  : ∀ (n : Nat) (x1 : Int32) (x2 : Int32) (σ : HS), c_X0_advance_44 n i0 x1 x2 σ = some τ → V p l e rmX0_advance s m args below meth c 5 A G xY 0 0 (MQ below (QV G xY A τ) args s 0 0 A) σ 44 [(0, .ref (G.2.2.1 i0)), (1, .int x1), (2, .int x2)] [] := by
  intro n
  induction n with
  | zero => intro x1 x2 σ h; exact nof h
  | succ n ih =>
    intro x1 x2 σ h
    rw [c_X0_advance_44] at h
    refine v_iload_n hC dX0_advance_44 2 rfl ?_
    refine v_iload_n hC dX0_advance_45 1 rfl ?_
    refine v_icmp_le (tgt := 68) hC dX0_advance_46 (by decide) (fun c_10 => ?_) (fun c_10 => ?_)
    · replace h := ift c_10 h
      exact w_X0_advance_68 hG (hO0) hC h
    · replace h := ifn c_10 h
      refine v_aload_n hC dX0_advance_49 0 rfl ?_
      refine v_iload_n hC dX0_advance_50 2 rfl ?_
      obtain ⟨r13, s12, hc_11, h⟩ := bd2 h
      refine v_callVI hC xE_ok (n := 1) (As := [.int x2]) (k_X0_at l hG (hO0) hc_11) (cwV 1 hC.1.2.2.2.2 gX0_advance_X0_at rfl rfl rfl (by decide +kernel) ⟨(Nat.le_of_ble_eq_true rfl), (Nat.le_of_ble_eq_true rfl)⟩) hO0 (by decide) rfl rfl rfl (Nat.le_of_ble_eq_true rfl) ⟨Nat.zero_le _, Nat.zero_le _⟩ dX0_advance_51 rfl ?_
      refine v_aload_n hC dX0_advance_54 0 rfl ?_
      refine v_iload_n hC dX0_advance_55 1 rfl ?_
      obtain ⟨r16, s15, hc_14, h⟩ := bd2 h
      refine v_callVI hC xE_ok (n := 1) (As := [.int x1]) (k_X0_at l hG (hO0) hc_14) (cwV 1 hC.1.2.2.2.2 gX0_advance_X0_at rfl rfl rfl (by decide +kernel) ⟨(Nat.le_of_ble_eq_true rfl), (Nat.le_of_ble_eq_true rfl)⟩) hO0 (by decide) rfl rfl rfl (Nat.le_of_ble_eq_true rfl) ⟨Nat.zero_le _, Nat.zero_le _⟩ dX0_advance_56 rfl ?_
      refine v_icmp_ge (tgt := 68) hC dX0_advance_59 (by decide) (fun c_17 => ?_) (fun c_17 => ?_)
      · replace h := ift c_17 h
        exact w_X0_advance_68 hG (hO0) hC h
      · replace h := ifn c_17 h
        refine v_iinc (v := (x2 + (-1))) (L' := [(0, .ref (G.2.2.1 i0)), (1, .int x1), (2, .int (x2 + (-1)))]) hC dX0_advance_62 2 rfl rfl (by decide) [1, 2, 0] rfl ?_
        refine v_goto (tgt := 44) hC dX0_advance_65 (by decide) ?_
        exact ih _ _ _ h
def c_X0_advance_32 (i0 : Nat) (x1 : Int32) (σ : HS) : Option HS := (if 0 ≤ x1 then (c_X0_advance_44 FU i0 x1 ((gI σ i0 1) - 1) σ) else (some σ))
set_option maxHeartbeats 4000000 in
set_option maxRecDepth 100000 in
theorem w_X0_advance_32 {adK adV : Nat → Nat} {tb : Nat} {p : Program} {l : Launch} {e : Env} {s : State} {m : MethodId} {args : Array Value} {below : List Frame} {meth : Method} {c : Code} {A : Nat → Prop} {G : WD}  {τ : HS} {i0 : Nat} {x1 : Int32} {σ : HS}  (hG : GX G xY) (hO0 : Ob G xY i0 0) (hC : Cx (xE adK adV tb) G.1 G.2.1 xY cX0_advance 5 none RX0 wsX0_advance p s m args meth c A)  (h : c_X0_advance_32 i0 x1 σ = some τ) : V p l e rmX0_advance s m args below meth c 5 A G xY 0 0 (MQ below (QV G xY A τ) args s 0 0 A) σ 32 [(0, .ref (G.2.2.1 i0)), (1, .int x1)] [] := by
  rw [c_X0_advance_32] at h
  refine v_iload_n hC dX0_advance_32 1 rfl ?_
  refine v_if_ge (tgt := 37) hC dX0_advance_33 (by decide) (fun c_9 => ?_) (fun c_9 => ?_)
  · replace h := ift c_9 h
    refine v_aload_n hC dX0_advance_37 0 rfl ?_
    refine v_get (C := RX0) (T := TX0) (N := 5) (ci := 0) (k := 1) (v := .int (gI σ i0 1)) hC hO0 hi_X0_advance_X0 rfl (by decide) (by decide) rfl rfl fl15_X0_advance dX0_advance_38 rfl ?_
    refine v_iconst (v := 1) hC dX0_advance_41 (by decide) ?_
    refine v_isub hC dX0_advance_42 ?_
    refine v_istore_n (L' := [(0, .ref (G.2.2.1 i0)), (1, .int x1), (2, .int ((gI σ i0 1) - 1))]) hC dX0_advance_43 (by decide) [1, 2, 0] rfl ?_
    exact w_X0_advance_44 hG (hO0) hC FU _ _ _ h
  · replace h := ifn c_9 h
    exact v_vret hC rfl dX0_advance_36 h
def c_X0_advance_7 : Nat → Nat → Int32 → HS → Option HS
  | 0, _, _, _ => none
  | n + 1, i0, x1, σ => (if x1 < 0 then (c_X0_advance_32 i0 x1 σ) else (bi2 (c_X0_at i0 x1 σ) (fun r4 s3 => (bi2 (c_X0_at i0 (x1 + 1) s3) (fun r7 s6 => (if r4 ≤ r7 then (c_X0_advance_32 i0 x1 s6) else (c_X0_advance_7 n i0 (x1 + (-1)) s6)))))))
set_option maxHeartbeats 4000000 in
set_option maxRecDepth 100000 in
theorem w_X0_advance_7 {adK adV : Nat → Nat} {tb : Nat} {p : Program} {l : Launch} {e : Env} {s : State} {m : MethodId} {args : Array Value} {below : List Frame} {meth : Method} {c : Code} {A : Nat → Prop} {G : WD}  {τ : HS} {i0 : Nat}  (hG : GX G xY) (hO0 : Ob G xY i0 0) (hC : Cx (xE adK adV tb) G.1 G.2.1 xY cX0_advance 5 none RX0 wsX0_advance p s m args meth c A)  : ∀ (n : Nat) (x1 : Int32) (σ : HS), c_X0_advance_7 n i0 x1 σ = some τ → V p l e rmX0_advance s m args below meth c 5 A G xY 0 0 (MQ below (QV G xY A τ) args s 0 0 A) σ 7 [(0, .ref (G.2.2.1 i0)), (1, .int x1)] [] := by
  intro n
  induction n with
  | zero => intro x1 σ h; exact nof h
  | succ n ih =>
    intro x1 σ h
    rw [c_X0_advance_7] at h
    refine v_iload_n hC dX0_advance_7 1 rfl ?_
    refine v_if_lt (tgt := 32) hC dX0_advance_8 (by decide) (fun c_1 => ?_) (fun c_1 => ?_)
    · replace h := ift c_1 h
      exact w_X0_advance_32 hG (hO0) hC h
    · replace h := ifn c_1 h
      refine v_aload_n hC dX0_advance_11 0 rfl ?_
      refine v_iload_n hC dX0_advance_12 1 rfl ?_
      obtain ⟨r4, s3, hc_2, h⟩ := bd2 h
      refine v_callVI hC xE_ok (n := 1) (As := [.int x1]) (k_X0_at l hG (hO0) hc_2) (cwV 1 hC.1.2.2.2.2 gX0_advance_X0_at rfl rfl rfl (by decide +kernel) ⟨(Nat.le_of_ble_eq_true rfl), (Nat.le_of_ble_eq_true rfl)⟩) hO0 (by decide) rfl rfl rfl (Nat.le_of_ble_eq_true rfl) ⟨Nat.zero_le _, Nat.zero_le _⟩ dX0_advance_13 rfl ?_
      refine v_aload_n hC dX0_advance_16 0 rfl ?_
      refine v_iload_n hC dX0_advance_17 1 rfl ?_
      refine v_iconst (v := 1) hC dX0_advance_18 (by decide) ?_
      refine v_iadd hC dX0_advance_19 ?_
      obtain ⟨r7, s6, hc_5, h⟩ := bd2 h
      refine v_callVI hC xE_ok (n := 1) (As := [.int (x1 + 1)]) (k_X0_at l hG (hO0) hc_5) (cwV 1 hC.1.2.2.2.2 gX0_advance_X0_at rfl rfl rfl (by decide +kernel) ⟨(Nat.le_of_ble_eq_true rfl), (Nat.le_of_ble_eq_true rfl)⟩) hO0 (by decide) rfl rfl rfl (Nat.le_of_ble_eq_true rfl) ⟨Nat.zero_le _, Nat.zero_le _⟩ dX0_advance_20 rfl ?_
      refine v_icmp_le (tgt := 32) hC dX0_advance_23 (by decide) (fun c_8 => ?_) (fun c_8 => ?_)
      · replace h := ift c_8 h
        exact w_X0_advance_32 hG (hO0) hC h
      · replace h := ifn c_8 h
        refine v_iinc (v := (x1 + (-1))) (L' := [(0, .ref (G.2.2.1 i0)), (1, .int (x1 + (-1)))]) hC dX0_advance_26 1 rfl rfl (by decide) [1, 0] rfl ?_
        refine v_goto (tgt := 7) hC dX0_advance_29 (by decide) ?_
        exact ih _ _ h
def c_X0_advance (i0 : Nat) (σ : HS) : Option HS := (c_X0_advance_7 FU i0 ((gI σ i0 1) - 2) σ)
set_option maxHeartbeats 4000000 in
set_option maxRecDepth 100000 in
theorem w_X0_advance {adK adV : Nat → Nat} {tb : Nat} {p : Program} {l : Launch} {e : Env} {s : State} {m : MethodId} {args : Array Value} {below : List Frame} {meth : Method} {c : Code} {A : Nat → Prop} {G : WD}  {τ : HS} {i0 : Nat} {σ : HS}  (hG : GX G xY) (hO0 : Ob G xY i0 0) (hC : Cx (xE adK adV tb) G.1 G.2.1 xY cX0_advance 5 none RX0 wsX0_advance p s m args meth c A) (h : c_X0_advance i0 σ = some τ) : V p l e rmX0_advance s m args below meth c 5 A G xY 0 0 (MQ below (QV G xY A τ) args s 0 0 A) σ 0 [(0, .ref (G.2.2.1 i0))] [] := by
  rw [c_X0_advance] at h
  refine v_aload_n hC dX0_advance_0 0 rfl ?_
  refine v_get (C := RX0) (T := TX0) (N := 5) (ci := 0) (k := 1) (v := .int (gI σ i0 1)) hC hO0 hi_X0_advance_X0 rfl (by decide) (by decide) rfl rfl fl15_X0_advance dX0_advance_1 rfl ?_
  refine v_iconst (v := 2) hC dX0_advance_4 (by decide) ?_
  refine v_isub hC dX0_advance_5 ?_
  refine v_istore_n (L' := [(0, .ref (G.2.2.1 i0)), (1, .int ((gI σ i0 1) - 2))]) hC dX0_advance_6 (by decide) [1, 0] rfl ?_
  exact w_X0_advance_7 hG (hO0) hC FU _ _ h
theorem k_X0_advance {adK adV : Nat → Nat} {tb : Nat} (l : Launch) {G : WD}  {τ : HS} {i0 : Nat} {σ : HS}  (hG : GX G xY) (hO0 : Ob G xY i0 0) (h : c_X0_advance i0 σ = some τ) : MV (xE adK adV tb) l yX0_advance wsX0_advance rmX0_advance G xY [.ref (G.2.2.1 i0)] σ τ :=
  MV.of RX0 (by decide) rfl rfl (Nat.le_of_ble_eq_true rfl) rfl rfl (fun p e s m below meth c hC => w_X0_advance  hG hO0 hC h)
abbrev rmX4_isOf : Room := { frames := 0, cells := 0, slots := 0, locals := 0 }
def c_X4_isOf (i0 : Nat) (p1 : Int32) (p2 : Int32) (p3 : Int32) (σ : HS) : Option (Int32 × HS) := (if (gI σ i0 0) = p1 then (if (gI σ i0 1) = p2 then (if (gI σ i0 2) = p3 then (some (1, σ)) else (some (0, σ))) else (some (0, σ))) else (some (0, σ)))
set_option maxHeartbeats 4000000 in
set_option maxRecDepth 100000 in
theorem w_X4_isOf {adK adV : Nat → Nat} {tb : Nat} {p : Program} {l : Launch} {e : Env} {s : State} {m : MethodId} {args : Array Value} {below : List Frame} {meth : Method} {c : Code} {A : Nat → Prop} {G : WD}  {r0 : Int32} {τ : HS} {i0 : Nat} {p1 : Int32} {p2 : Int32} {p3 : Int32} {σ : HS}  (hG : GX G xY) (hO0 : Ob G xY i0 4) (hC : Cx (xE adK adV tb) G.1 G.2.1 xY cX4_isOf 4 (some .boolean) RX4 wsX4_isOf p s m args meth c A) (h : c_X4_isOf i0 p1 p2 p3 σ = some (r0, τ)) : V p l e rmX4_isOf s m args below meth c 4 A G xY 0 0 (MQ below (QI G xY A r0 τ) args s 0 0 A) σ 0 [(0, .ref (G.2.2.1 i0)), (1, .int p1), (2, .int p2), (3, .int p3)] [] := by
  rw [c_X4_isOf] at h
  refine v_aload_n hC dX4_isOf_0 0 rfl ?_
  refine v_get (C := RX4) (T := TX4) (N := 7) (ci := 4) (k := 0) (v := .int (gI σ i0 0)) hC hO0 hi_X4_isOf_X4 rfl (by decide) (by decide) rfl rfl fl9_X4_isOf dX4_isOf_1 rfl ?_
  refine v_iload_n hC dX4_isOf_4 1 rfl ?_
  refine v_icmp_ne (tgt := 28) hC dX4_isOf_5 (by decide) (fun c_1 => ?_) (fun c_1 => ?_)
  · replace h := ifn c_1 h
    refine v_iconst (v := 0) hC dX4_isOf_28 (by decide) ?_
    exact v_zret hC rfl rfl dX4_isOf_29 h
  · replace h := ift c_1 h
    refine v_aload_n hC dX4_isOf_8 0 rfl ?_
    refine v_get (C := RX4) (T := TX4) (N := 7) (ci := 4) (k := 1) (v := .int (gI σ i0 1)) hC hO0 hi_X4_isOf_X4 rfl (by decide) (by decide) rfl rfl fl15_X4_isOf dX4_isOf_9 rfl ?_
    refine v_iload_n hC dX4_isOf_12 2 rfl ?_
    refine v_icmp_ne (tgt := 28) hC dX4_isOf_13 (by decide) (fun c_2 => ?_) (fun c_2 => ?_)
    · replace h := ifn c_2 h
      refine v_iconst (v := 0) hC dX4_isOf_28 (by decide) ?_
      exact v_zret hC rfl rfl dX4_isOf_29 h
    · replace h := ift c_2 h
      refine v_aload_n hC dX4_isOf_16 0 rfl ?_
      refine v_get (C := RX4) (T := TX4) (N := 7) (ci := 4) (k := 2) (v := .int (gI σ i0 2)) hC hO0 hi_X4_isOf_X4 rfl (by decide) (by decide) rfl rfl fl18_X4_isOf dX4_isOf_17 rfl ?_
      refine v_iload_n hC dX4_isOf_20 3 rfl ?_
      refine v_icmp_ne (tgt := 28) hC dX4_isOf_21 (by decide) (fun c_3 => ?_) (fun c_3 => ?_)
      · replace h := ifn c_3 h
        refine v_iconst (v := 0) hC dX4_isOf_28 (by decide) ?_
        exact v_zret hC rfl rfl dX4_isOf_29 h
      · replace h := ift c_3 h
        refine v_iconst (v := 1) hC dX4_isOf_24 (by decide) ?_
        refine v_goto (tgt := 29) hC dX4_isOf_25 (by decide) ?_
        exact v_zret hC rfl rfl dX4_isOf_29 h
theorem k_X4_isOf {adK adV : Nat → Nat} {tb : Nat} (l : Launch) {G : WD}  {r0 : Int32} {τ : HS} {i0 : Nat} {p1 : Int32} {p2 : Int32} {p3 : Int32} {σ : HS}  (hG : GX G xY) (hO0 : Ob G xY i0 4) (h : c_X4_isOf i0 p1 p2 p3 σ = some (r0, τ)) : MI (xE adK adV tb) l yX4_isOf wsX4_isOf rmX4_isOf G xY [.ref (G.2.2.1 i0), .int p1, .int p2, .int p3] σ r0 τ :=
  MI.of RX4 (by decide) rfl rfl (Nat.le_of_ble_eq_true rfl) rfl rfl (fun p e s m below meth c hC => w_X4_isOf  hG hO0 hC h)
abbrev rmX4_begin : Room := { frames := 0, cells := 0, slots := 0, locals := 0 }
def c_X4_begin (i0 : Nat) (p1 : Int32) (p2 : Int32) (p3 : Int32) (σ : HS) : Option HS := (lt (sI σ i0 0 p1) (fun s1 => (lt (sI s1 i0 1 p2) (fun s3 => (lt (sI s3 i0 2 p3) (fun s5 => (lt (sI s5 i0 3 0) (fun s7 => (lt (sJ s7 i0 6 0) (fun s9 => (lt (sI s9 i0 4 (-1)) (fun s11 => (lt (sI s11 i0 5 0) (fun s13 => (some s13)))))))))))))))
set_option maxHeartbeats 4000000 in
set_option maxRecDepth 100000 in
theorem w_X4_begin {adK adV : Nat → Nat} {tb : Nat} {p : Program} {l : Launch} {e : Env} {s : State} {m : MethodId} {args : Array Value} {below : List Frame} {meth : Method} {c : Code} {A : Nat → Prop} {G : WD}  {τ : HS} {i0 : Nat} {p1 : Int32} {p2 : Int32} {p3 : Int32} {σ : HS}  (hG : GX G xY) (hO0 : Ob G xY i0 4) (hC : Cx (xE adK adV tb) G.1 G.2.1 xY cX4_begin 4 none RX4 wsX4_begin p s m args meth c A) (h : c_X4_begin i0 p1 p2 p3 σ = some τ) : V p l e rmX4_begin s m args below meth c 4 A G xY 0 0 (MQ below (QV G xY A τ) args s 0 0 A) σ 0 [(0, .ref (G.2.2.1 i0)), (1, .int p1), (2, .int p2), (3, .int p3)] [] := by
  rw [c_X4_begin] at h
  refine v_aload_n hC dX4_begin_0 0 rfl ?_
  refine v_iload_n hC dX4_begin_1 1 rfl ?_
  refine v_putI (C := RX4) (T := TX4) (N := 7) (ci := 4) (k := 0) (ty := .int) hC hO0 hi_X4_begin_X4 rfl (by decide) (by decide) rfl rfl tyX4_ok nmX4 fl9_X4_begin rfl rfl rfl rfl rfl dX4_begin_2 ?_
  obtain ⟨s1, e2, h⟩ := ld h
  refine V.eq e2 ?_
  refine v_aload_n hC dX4_begin_5 0 rfl ?_
  refine v_iload_n hC dX4_begin_6 2 rfl ?_
  refine v_putI (C := RX4) (T := TX4) (N := 7) (ci := 4) (k := 1) (ty := .int) hC hO0 hi_X4_begin_X4 rfl (by decide) (by decide) rfl rfl tyX4_ok nmX4 fl15_X4_begin rfl rfl rfl rfl rfl dX4_begin_7 ?_
  obtain ⟨s3, e4, h⟩ := ld h
  refine V.eq e4 ?_
  refine v_aload_n hC dX4_begin_10 0 rfl ?_
  refine v_iload_n hC dX4_begin_11 3 rfl ?_
  refine v_putI (C := RX4) (T := TX4) (N := 7) (ci := 4) (k := 2) (ty := .int) hC hO0 hi_X4_begin_X4 rfl (by decide) (by decide) rfl rfl tyX4_ok nmX4 fl18_X4_begin rfl rfl rfl rfl rfl dX4_begin_12 ?_
  obtain ⟨s5, e6, h⟩ := ld h
  refine V.eq e6 ?_
  refine v_aload_n hC dX4_begin_15 0 rfl ?_
  refine v_iconst (v := 0) hC dX4_begin_16 (by decide) ?_
  refine v_putI (C := RX4) (T := TX4) (N := 7) (ci := 4) (k := 3) (ty := .int) hC hO0 hi_X4_begin_X4 rfl (by decide) (by decide) rfl rfl tyX4_ok nmX4 fl21_X4_begin rfl rfl rfl rfl rfl dX4_begin_17 ?_
  obtain ⟨s7, e8, h⟩ := ld h
  refine V.eq e8 ?_
  refine v_aload_n hC dX4_begin_20 0 rfl ?_
  refine v_lconst (v := 0) hC dX4_begin_21 (by decide) ?_
  refine v_putJ (C := RX4) (T := TX4) (N := 7) (ci := 4) (k := 6) hC hO0 hi_X4_begin_X4 rfl (by decide) (by decide) rfl rfl tyX4_ok nmX4 fl24_X4_begin rfl rfl rfl dX4_begin_22 ?_
  obtain ⟨s9, e10, h⟩ := ld h
  refine V.eq e10 ?_
  refine v_aload_n hC dX4_begin_25 0 rfl ?_
  refine v_iconst (v := (-1)) hC dX4_begin_26 (by decide) ?_
  refine v_putI (C := RX4) (T := TX4) (N := 7) (ci := 4) (k := 4) (ty := .int) hC hO0 hi_X4_begin_X4 rfl (by decide) (by decide) rfl rfl tyX4_ok nmX4 fl28_X4_begin rfl rfl rfl rfl rfl dX4_begin_27 ?_
  obtain ⟨s11, e12, h⟩ := ld h
  refine V.eq e12 ?_
  refine v_aload_n hC dX4_begin_30 0 rfl ?_
  refine v_iconst (v := 0) hC dX4_begin_31 (by decide) ?_
  refine v_putI (C := RX4) (T := TX4) (N := 7) (ci := 4) (k := 5) (ty := .int) hC hO0 hi_X4_begin_X4 rfl (by decide) (by decide) rfl rfl tyX4_ok nmX4 fl31_X4_begin rfl rfl rfl rfl rfl dX4_begin_32 ?_
  obtain ⟨s13, e14, h⟩ := ld h
  refine V.eq e14 ?_
  exact v_vret hC rfl dX4_begin_35 h
theorem k_X4_begin {adK adV : Nat → Nat} {tb : Nat} (l : Launch) {G : WD}  {τ : HS} {i0 : Nat} {p1 : Int32} {p2 : Int32} {p3 : Int32} {σ : HS}  (hG : GX G xY) (hO0 : Ob G xY i0 4) (h : c_X4_begin i0 p1 p2 p3 σ = some τ) : MV (xE adK adV tb) l yX4_begin wsX4_begin rmX4_begin G xY [.ref (G.2.2.1 i0), .int p1, .int p2, .int p3] σ τ :=
  MV.of RX4 (by decide) rfl rfl (Nat.le_of_ble_eq_true rfl) rfl rfl (fun p e s m below meth c hC => w_X4_begin  hG hO0 hC h)
abbrev rmX4_add : Room := { frames := 2, cells := 0, slots := 0, locals := 43 }
def c_X4_add_45 (i0 : Nat) (i2 : Nat) (x1 : Int32) (σ : HS) : Option HS := (lt (sI σ i0 4 x1) (fun s8 => (bi2 (c_X0_digits i2 s8) (fun r12 s11 => (lt (sI s11 i0 5 r12) (fun s13 => (some s13)))))))
set_option maxHeartbeats 4000000 in
set_option maxRecDepth 100000 in
theorem w_X4_add_45 {adK adV : Nat → Nat} {tb : Nat} {p : Program} {l : Launch} {e : Env} {s : State} {m : MethodId} {args : Array Value} {below : List Frame} {meth : Method} {c : Code} {A : Nat → Prop} {G : WD}  {τ : HS} {i0 : Nat} {i2 : Nat} {x1 : Int32} {σ : HS}  (hG : GX G xY) (hO0 : Ob G xY i0 4) (hO2 : Ob G xY i2 0) (hC : Cx (xE adK adV tb) G.1 G.2.1 xY cX4_add 3 none RX4 wsX4_add p s m args meth c A)  (h : c_X4_add_45 i0 i2 x1 σ = some τ) : V p l e rmX4_add s m args below meth c 3 A G xY 0 0 (MQ below (QV G xY A τ) args s 0 0 A) σ 45 [(0, .ref (G.2.2.1 i0)), (1, .int x1), (2, .ref (G.2.2.1 i2))] [] := by
  rw [c_X4_add_45] at h
  refine v_aload_n hC dX4_add_45 0 rfl ?_
  refine v_iload_n hC dX4_add_46 1 rfl ?_
  refine v_putI (C := RX4) (T := TX4) (N := 7) (ci := 4) (k := 4) (ty := .int) hC hO0 hi_X4_add_X4 rfl (by decide) (by decide) rfl rfl tyX4_ok nmX4 fl28_X4_add rfl rfl rfl rfl rfl dX4_add_47 ?_
  obtain ⟨s8, e9, h⟩ := ld h
  refine V.eq e9 ?_
  refine v_aload_n hC dX4_add_50 0 rfl ?_
  refine v_aload_n hC dX4_add_51 2 rfl ?_
  obtain ⟨r12, s11, hc_10, h⟩ := bd2 h
  refine v_callVI hC xE_ok (n := 0) (As := []) (k_X0_digits l hG (hO2) hc_10) (cwV 0 hC.1.2.2.2.2 gX4_add_X0_digits rfl rfl rfl (by decide +kernel) ⟨(Nat.le_of_ble_eq_true rfl), (Nat.le_of_ble_eq_true rfl)⟩) hO2 (by decide) rfl rfl rfl (Nat.le_of_ble_eq_true rfl) ⟨Nat.zero_le _, Nat.zero_le _⟩ dX4_add_52 rfl ?_
  refine v_putI (C := RX4) (T := TX4) (N := 7) (ci := 4) (k := 5) (ty := .int) hC hO0 hi_X4_add_X4 rfl (by decide) (by decide) rfl rfl tyX4_ok nmX4 fl31_X4_add rfl rfl rfl rfl rfl dX4_add_55 ?_
  obtain ⟨s13, e14, h⟩ := ld h
  refine V.eq e14 ?_
  exact v_vret hC rfl dX4_add_58 h
def c_X4_add_29 (i0 : Nat) (i2 : Nat) (x1 : Int32) (σ : HS) : Option HS := (if (gI σ i0 4) = (-1) then (c_X4_add_45 i0 i2 x1 σ) else (if (gI σ i0 4) ≤ x1 then (some σ) else (c_X4_add_45 i0 i2 x1 σ)))
set_option maxHeartbeats 4000000 in
set_option maxRecDepth 100000 in
theorem w_X4_add_29 {adK adV : Nat → Nat} {tb : Nat} {p : Program} {l : Launch} {e : Env} {s : State} {m : MethodId} {args : Array Value} {below : List Frame} {meth : Method} {c : Code} {A : Nat → Prop} {G : WD}  {τ : HS} {i0 : Nat} {i2 : Nat} {x1 : Int32} {σ : HS}  (hG : GX G xY) (hO0 : Ob G xY i0 4) (hO2 : Ob G xY i2 0) (hC : Cx (xE adK adV tb) G.1 G.2.1 xY cX4_add 3 none RX4 wsX4_add p s m args meth c A)  (h : c_X4_add_29 i0 i2 x1 σ = some τ) : V p l e rmX4_add s m args below meth c 3 A G xY 0 0 (MQ below (QV G xY A τ) args s 0 0 A) σ 29 [(0, .ref (G.2.2.1 i0)), (1, .int x1), (2, .ref (G.2.2.1 i2))] [] := by
  rw [c_X4_add_29] at h
  refine v_aload_n hC dX4_add_29 0 rfl ?_
  refine v_get (C := RX4) (T := TX4) (N := 7) (ci := 4) (k := 4) (v := .int (gI σ i0 4)) hC hO0 hi_X4_add_X4 rfl (by decide) (by decide) rfl rfl fl28_X4_add dX4_add_30 rfl ?_
  refine v_iconst (v := (-1)) hC dX4_add_33 (by decide) ?_
  refine v_icmp_eq (tgt := 45) hC dX4_add_34 (by decide) (fun c_6 => ?_) (fun c_6 => ?_)
  · replace h := ift c_6 h
    exact w_X4_add_45 hG (hO0) (hO2) hC h
  · replace h := ifn c_6 h
    refine v_iload_n hC dX4_add_37 1 rfl ?_
    refine v_aload_n hC dX4_add_38 0 rfl ?_
    refine v_get (C := RX4) (T := TX4) (N := 7) (ci := 4) (k := 4) (v := .int (gI σ i0 4)) hC hO0 hi_X4_add_X4 rfl (by decide) (by decide) rfl rfl fl28_X4_add dX4_add_39 rfl ?_
    refine v_icmp_ge (tgt := 58) hC dX4_add_42 (by decide) (fun c_7 => ?_) (fun c_7 => ?_)
    · replace h := ift c_7 h
      exact v_vret hC rfl dX4_add_58 h
    · replace h := ifn c_7 h
      exact w_X4_add_45 hG (hO0) (hO2) hC h
def c_X4_add (i0 : Nat) (i2 : Nat) (p1 : Int32) (σ : HS) : Option HS := (lt (sJ σ i0 6 ((gJ σ i0 6) + (Int32.toInt64 p1))) (fun s1 => (if p1 = (gI s1 i0 0) then (lt (sI s1 i0 3 ((gI s1 i0 3) + 1)) (fun s4 => (c_X4_add_29 i0 i2 p1 s4))) else (c_X4_add_29 i0 i2 p1 s1))))
set_option maxHeartbeats 4000000 in
set_option maxRecDepth 100000 in
theorem w_X4_add {adK adV : Nat → Nat} {tb : Nat} {p : Program} {l : Launch} {e : Env} {s : State} {m : MethodId} {args : Array Value} {below : List Frame} {meth : Method} {c : Code} {A : Nat → Prop} {G : WD}  {τ : HS} {i0 : Nat} {i2 : Nat} {p1 : Int32} {σ : HS}  (hG : GX G xY) (hO0 : Ob G xY i0 4) (hO2 : Ob G xY i2 0) (hC : Cx (xE adK adV tb) G.1 G.2.1 xY cX4_add 3 none RX4 wsX4_add p s m args meth c A) (h : c_X4_add i0 i2 p1 σ = some τ) : V p l e rmX4_add s m args below meth c 3 A G xY 0 0 (MQ below (QV G xY A τ) args s 0 0 A) σ 0 [(0, .ref (G.2.2.1 i0)), (1, .int p1), (2, .ref (G.2.2.1 i2))] [] := by
  rw [c_X4_add] at h
  refine v_aload_n hC dX4_add_0 0 rfl ?_
  refine v_dup hC dX4_add_1 rfl ?_
  refine v_get (C := RX4) (T := TX4) (N := 7) (ci := 4) (k := 6) (v := .long (gJ σ i0 6)) hC hO0 hi_X4_add_X4 rfl (by decide) (by decide) rfl rfl fl24_X4_add dX4_add_2 rfl ?_
  refine v_iload_n hC dX4_add_5 1 rfl ?_
  refine v_i2l hC dX4_add_6 ?_
  refine v_ladd hC dX4_add_7 ?_
  refine v_putJ (C := RX4) (T := TX4) (N := 7) (ci := 4) (k := 6) hC hO0 hi_X4_add_X4 rfl (by decide) (by decide) rfl rfl tyX4_ok nmX4 fl24_X4_add rfl rfl rfl dX4_add_8 ?_
  obtain ⟨s1, e2, h⟩ := ld h
  refine V.eq e2 ?_
  refine v_iload_n hC dX4_add_11 1 rfl ?_
  refine v_aload_n hC dX4_add_12 0 rfl ?_
  refine v_get (C := RX4) (T := TX4) (N := 7) (ci := 4) (k := 0) (v := .int (gI s1 i0 0)) hC hO0 hi_X4_add_X4 rfl (by decide) (by decide) rfl rfl fl9_X4_add dX4_add_13 rfl ?_
  refine v_icmp_ne (tgt := 29) hC dX4_add_16 (by decide) (fun c_3 => ?_) (fun c_3 => ?_)
  · replace h := ifn c_3 h
    exact w_X4_add_29 hG (hO0) (hO2) hC h
  · replace h := ift c_3 h
    refine v_aload_n hC dX4_add_19 0 rfl ?_
    refine v_dup hC dX4_add_20 rfl ?_
    refine v_get (C := RX4) (T := TX4) (N := 7) (ci := 4) (k := 3) (v := .int (gI s1 i0 3)) hC hO0 hi_X4_add_X4 rfl (by decide) (by decide) rfl rfl fl21_X4_add dX4_add_21 rfl ?_
    refine v_iconst (v := 1) hC dX4_add_24 (by decide) ?_
    refine v_iadd hC dX4_add_25 ?_
    refine v_putI (C := RX4) (T := TX4) (N := 7) (ci := 4) (k := 3) (ty := .int) hC hO0 hi_X4_add_X4 rfl (by decide) (by decide) rfl rfl tyX4_ok nmX4 fl21_X4_add rfl rfl rfl rfl rfl dX4_add_26 ?_
    obtain ⟨s4, e5, h⟩ := ld h
    refine V.eq e5 ?_
    exact w_X4_add_29 hG (hO0) (hO2) hC h
theorem k_X4_add {adK adV : Nat → Nat} {tb : Nat} (l : Launch) {G : WD}  {τ : HS} {i0 : Nat} {i2 : Nat} {p1 : Int32} {σ : HS}  (hG : GX G xY) (hO0 : Ob G xY i0 4) (hO2 : Ob G xY i2 0) (h : c_X4_add i0 i2 p1 σ = some τ) : MV (xE adK adV tb) l yX4_add wsX4_add rmX4_add G xY [.ref (G.2.2.1 i0), .int p1, .ref (G.2.2.1 i2)] σ τ :=
  MV.of RX4 (by decide) rfl rfl (Nat.le_of_ble_eq_true rfl) rfl rfl (fun p e s m below meth c hC => w_X4_add  hG hO0 hO2 hC h)
abbrev rmX1_isKind : Room := { frames := 0, cells := 0, slots := 0, locals := 0 }
def c_X1_isKind (p0 : Int32) (σ : HS) : Option (Int32 × HS) := (if p0 < 0 then (some (0, σ)) else (if 5 < p0 then (some (0, σ)) else (some (1, σ))))
set_option maxHeartbeats 4000000 in
set_option maxRecDepth 100000 in
theorem w_X1_isKind {adK adV : Nat → Nat} {tb : Nat} {p : Program} {l : Launch} {e : Env} {s : State} {m : MethodId} {args : Array Value} {below : List Frame} {meth : Method} {c : Code} {A : Nat → Prop} {G : WD}  {r0 : Int32} {τ : HS} {p0 : Int32} {σ : HS}  (hG : GX G xY)  (hC : Cx (xE adK adV tb) G.1 G.2.1 xY cX1_isKind 1 (some .boolean) RX1 wsX1_isKind p s m args meth c A) (h : c_X1_isKind p0 σ = some (r0, τ)) : V p l e rmX1_isKind s m args below meth c 1 A G xY 0 0 (MQ below (QI G xY A r0 τ) args s 0 0 A) σ 0 [(0, .int p0)] [] := by
  rw [c_X1_isKind] at h
  refine v_iload_n hC dX1_isKind_0 0 rfl ?_
  refine v_if_lt (tgt := 13) hC dX1_isKind_1 (by decide) (fun c_1 => ?_) (fun c_1 => ?_)
  · replace h := ift c_1 h
    refine v_iconst (v := 0) hC dX1_isKind_13 (by decide) ?_
    exact v_zret hC rfl rfl dX1_isKind_14 h
  · replace h := ifn c_1 h
    refine v_iload_n hC dX1_isKind_4 0 rfl ?_
    refine v_iconst (v := 5) hC dX1_isKind_5 (by decide) ?_
    refine v_icmp_gt (tgt := 13) hC dX1_isKind_6 (by decide) (fun c_2 => ?_) (fun c_2 => ?_)
    · replace h := ift c_2 h
      refine v_iconst (v := 0) hC dX1_isKind_13 (by decide) ?_
      exact v_zret hC rfl rfl dX1_isKind_14 h
    · replace h := ifn c_2 h
      refine v_iconst (v := 1) hC dX1_isKind_9 (by decide) ?_
      refine v_goto (tgt := 14) hC dX1_isKind_10 (by decide) ?_
      exact v_zret hC rfl rfl dX1_isKind_14 h
theorem k_X1_isKind {adK adV : Nat → Nat} {tb : Nat} (l : Launch) {G : WD}  {r0 : Int32} {τ : HS} {p0 : Int32} {σ : HS}  (hG : GX G xY)  (h : c_X1_isKind p0 σ = some (r0, τ)) : MI (xE adK adV tb) l yX1_isKind wsX1_isKind rmX1_isKind G xY [.int p0] σ r0 τ :=
  MI.of RX1 (by decide) rfl rfl (Nat.le_of_ble_eq_true rfl) rfl rfl (fun p e s m below meth c hC => w_X1_isKind  hG  hC h)
abbrev rmX1_isTakenFor : Room := { frames := 1, cells := 0, slots := 0, locals := 20 }
def c_X1_isTakenFor_7 : Nat → Int32 → Int32 → Int32 → HS → Option (Int32 × HS)
  | 0, _, _, _, _ => none
  | n + 1, x1, x2, x3, σ => (if 6 ≤ x3 then (some (0, σ)) else (bi2 (c_X1_isKind x2 σ) (fun r4 s3 => (if r4 = 0 then (some (0, s3)) else (if x2 = x1 then (some (1, s3)) else (if inb x2 6 = true then (c_X1_isTakenFor_7 n x1 (tabF (ix x2)) (x3 + 1) s3) else none))))))
set_option maxHeartbeats 4000000 in
set_option maxRecDepth 100000 in
theorem w_X1_isTakenFor_7 {adK adV : Nat → Nat} {tb : Nat} {p : Program} {l : Launch} {e : Env} {s : State} {m : MethodId} {args : Array Value} {below : List Frame} {meth : Method} {c : Code} {A : Nat → Prop} {G : WD}  {r0 : Int32} {τ : HS}   (hG : GX G xY)  (hC : Cx (xE adK adV tb) G.1 G.2.1 xY cX1_isTakenFor 4 (some .boolean) RX1 wsX1_isTakenFor p s m args meth c A)  : ∀ (n : Nat) (x1 : Int32) (x2 : Int32) (x3 : Int32) (σ : HS), c_X1_isTakenFor_7 n x1 x2 x3 σ = some (r0, τ) → V p l e rmX1_isTakenFor s m args below meth c 4 A G xY 0 0 (MQ below (QI G xY A r0 τ) args s 0 0 A) σ 7 [(1, .int x1), (2, .int x2), (3, .int x3)] [] := by
  intro n
  induction n with
  | zero => intro x1 x2 x3 σ h; exact nof h
  | succ n ih =>
    intro x1 x2 x3 σ h
    rw [c_X1_isTakenFor_7] at h
    refine v_iload_n hC dX1_isTakenFor_7 2 rfl ?_
    refine v_getTab hC (xE_tab hC.2.2.2.2.2).1 tb_X1_isTakenFor dX1_isTakenFor_8 ?_
    refine v_tabLen (v := 6) hC (xE_tab hC.2.2.2.2.2).2 (by decide) dX1_isTakenFor_11 ?_
    refine v_icmp_ge (tgt := 41) hC dX1_isTakenFor_12 (by decide) (fun c_1 => ?_) (fun c_1 => ?_)
    · replace h := ift c_1 h
      refine v_iconst (v := 0) hC dX1_isTakenFor_41 (by decide) ?_
      exact v_zret hC rfl rfl dX1_isTakenFor_42 h
    · replace h := ifn c_1 h
      refine v_iload_n hC dX1_isTakenFor_15 1 rfl ?_
      obtain ⟨r4, s3, hc_2, h⟩ := bd2 h
      refine v_callSI hC xE_ok (n := 1) (As := [.int x2]) (k_X1_isKind l hG hc_2) (va_cwS 1 hC.1.2.2.2.2 gX1_isTakenFor_X1_isKind rfl rfl rfl (by decide +kernel) ⟨(Nat.le_of_ble_eq_true rfl), (Nat.le_of_ble_eq_true rfl)⟩) rfl (Nat.le_of_ble_eq_true rfl) ⟨Nat.zero_le _, Nat.zero_le _⟩ dX1_isTakenFor_16 rfl ?_
      refine v_if_eq (tgt := 41) hC dX1_isTakenFor_19 (by decide) (fun c_5 => ?_) (fun c_5 => ?_)
      · replace h := ift c_5 h
        refine v_iconst (v := 0) hC dX1_isTakenFor_41 (by decide) ?_
        exact v_zret hC rfl rfl dX1_isTakenFor_42 h
      · replace h := ifn c_5 h
        refine v_iload_n hC dX1_isTakenFor_22 1 rfl ?_
        refine v_iload_n hC dX1_isTakenFor_23 0 rfl ?_
        refine v_icmp_ne (tgt := 29) hC dX1_isTakenFor_24 (by decide) (fun c_6 => ?_) (fun c_6 => ?_)
        · replace h := ifn c_6 h
          refine v_getTab hC (xE_tab hC.2.2.2.2.2).1 tb_X1_isTakenFor dX1_isTakenFor_29 ?_
          refine v_iload_n hC dX1_isTakenFor_32 1 rfl ?_
          obtain ⟨g_7, h⟩ := gd h
          refine v_tabLd hC (xE_tab hC.2.2.2.2.2).2 g_7 dX1_isTakenFor_33 ?_
          refine v_istore_n (L' := [(1, .int x1), (2, .int (tabF (ix x2))), (3, .int x3)]) hC dX1_isTakenFor_34 (by decide) [1, 0, 2] rfl ?_
          refine v_iinc (v := (x3 + 1)) (L' := [(1, .int x1), (2, .int (tabF (ix x2))), (3, .int (x3 + 1))]) hC dX1_isTakenFor_35 2 rfl rfl (by decide) [1, 2, 0] rfl ?_
          refine v_goto (tgt := 7) hC dX1_isTakenFor_38 (by decide) ?_
          exact ih _ _ _ _ h
        · replace h := ift c_6 h
          refine v_iconst (v := 1) hC dX1_isTakenFor_27 (by decide) ?_
          exact v_zret hC rfl rfl dX1_isTakenFor_28 h
def c_X1_isTakenFor (i0 : Nat) (p1 : Int32) (σ : HS) : Option (Int32 × HS) := (c_X1_isTakenFor_7 FU p1 (gI σ i0 0) 0 σ)
set_option maxHeartbeats 4000000 in
set_option maxRecDepth 100000 in
theorem w_X1_isTakenFor {adK adV : Nat → Nat} {tb : Nat} {p : Program} {l : Launch} {e : Env} {s : State} {m : MethodId} {args : Array Value} {below : List Frame} {meth : Method} {c : Code} {A : Nat → Prop} {G : WD}  {r0 : Int32} {τ : HS} {i0 : Nat} {p1 : Int32} {σ : HS}  (hG : GX G xY) (hO0 : Ob G xY i0 1) (hC : Cx (xE adK adV tb) G.1 G.2.1 xY cX1_isTakenFor 4 (some .boolean) RX1 wsX1_isTakenFor p s m args meth c A) (h : c_X1_isTakenFor i0 p1 σ = some (r0, τ)) : V p l e rmX1_isTakenFor s m args below meth c 4 A G xY 0 0 (MQ below (QI G xY A r0 τ) args s 0 0 A) σ 0 [(0, .ref (G.2.2.1 i0)), (1, .int p1)] [] := by
  rw [c_X1_isTakenFor] at h
  refine v_aload_n hC dX1_isTakenFor_0 0 rfl ?_
  refine v_get (C := RX1) (T := TX1) (N := 3) (ci := 1) (k := 0) (v := .int (gI σ i0 0)) hC hO0 hi_X1_isTakenFor_X1 rfl (by decide) (by decide) rfl rfl fl18_X1_isTakenFor dX1_isTakenFor_1 rfl ?_
  refine v_istore_n (L' := [(1, .int p1), (2, .int (gI σ i0 0))]) hC dX1_isTakenFor_4 (by decide) [2, 0] rfl ?_
  refine v_iconst (v := 0) hC dX1_isTakenFor_5 (by decide) ?_
  refine v_istore_n (L' := [(1, .int p1), (2, .int (gI σ i0 0)), (3, .int 0)]) hC dX1_isTakenFor_6 (by decide) [1, 2, 0] rfl ?_
  exact w_X1_isTakenFor_7 hG hC FU _ _ _ _ h
theorem k_X1_isTakenFor {adK adV : Nat → Nat} {tb : Nat} (l : Launch) {G : WD}  {r0 : Int32} {τ : HS} {i0 : Nat} {p1 : Int32} {σ : HS}  (hG : GX G xY) (hO0 : Ob G xY i0 1) (h : c_X1_isTakenFor i0 p1 σ = some (r0, τ)) : MI (xE adK adV tb) l yX1_isTakenFor wsX1_isTakenFor rmX1_isTakenFor G xY [.ref (G.2.2.1 i0), .int p1] σ r0 τ :=
  MI.of RX1 (by decide) rfl rfl (Nat.le_of_ble_eq_true rfl) rfl rfl (fun p e s m below meth c hC => w_X1_isTakenFor  hG hO0 hC h)
abbrev rmX1_firstBox : Room := { frames := 0, cells := 0, slots := 0, locals := 0 }
def c_X1_firstBox (i0 : Nat) (p1 : Int32) (p2 : Int32) (σ : HS) : Option (Int32 × HS) := (if 1 ≤ p2 then (if (gI σ i0 0) = 1 then (if p2 = 0 then none else (some ((irm (p1 + (gI σ i0 1)) p2), σ))) else (if (gI σ i0 0) = 2 then (some (p1, σ)) else (if (gI σ i0 0) = 3 then (if p2 = 0 then none else (some ((irm (p1 + (gI σ i0 1)) p2), σ))) else (if (gI σ i0 0) = 4 then (some (p1, σ)) else (if (gI σ i0 0) = 5 then (if p2 = 0 then none else (some ((irm (p1 + (gI σ i0 1)) p2), σ))) else (some (0, σ))))))) else (some (0, σ)))
set_option maxHeartbeats 4000000 in
set_option maxRecDepth 100000 in
theorem w_X1_firstBox {adK adV : Nat → Nat} {tb : Nat} {p : Program} {l : Launch} {e : Env} {s : State} {m : MethodId} {args : Array Value} {below : List Frame} {meth : Method} {c : Code} {A : Nat → Prop} {G : WD}  {r0 : Int32} {τ : HS} {i0 : Nat} {p1 : Int32} {p2 : Int32} {σ : HS}  (hG : GX G xY) (hO0 : Ob G xY i0 1) (hC : Cx (xE adK adV tb) G.1 G.2.1 xY cX1_firstBox 3 (some .int) RX1 wsX1_firstBox p s m args meth c A) (h : c_X1_firstBox i0 p1 p2 σ = some (r0, τ)) : V p l e rmX1_firstBox s m args below meth c 3 A G xY 0 0 (MQ below (QI G xY A r0 τ) args s 0 0 A) σ 0 [(0, .ref (G.2.2.1 i0)), (1, .int p1), (2, .int p2)] [] := by
  rw [c_X1_firstBox] at h
  refine v_iload_n hC dX1_firstBox_0 2 rfl ?_
  refine v_iconst (v := 1) hC dX1_firstBox_1 (by decide) ?_
  refine v_icmp_ge (tgt := 7) hC dX1_firstBox_2 (by decide) (fun c_1 => ?_) (fun c_1 => ?_)
  · replace h := ift c_1 h
    refine v_aload_n hC dX1_firstBox_7 0 rfl ?_
    refine v_get (C := RX1) (T := TX1) (N := 3) (ci := 1) (k := 0) (v := .int (gI σ i0 0)) hC hO0 hi_X1_firstBox_X1 rfl (by decide) (by decide) rfl rfl fl18_X1_firstBox dX1_firstBox_8 rfl ?_
    by_cases c_2 : (gI σ i0 0) = 1
    · replace h := ift c_2 h
      refine v_tabIn (v := 1) (tgt := 44) c_2 hC dX1_firstBox_11 (by decide) (by decide) rfl (by decide) ?_
      refine v_iload_n hC dX1_firstBox_44 1 rfl ?_
      refine v_aload_n hC dX1_firstBox_45 0 rfl ?_
      refine v_get (C := RX1) (T := TX1) (N := 3) (ci := 1) (k := 1) (v := .int (gI σ i0 1)) hC hO0 hi_X1_firstBox_X1 rfl (by decide) (by decide) rfl rfl fl22_X1_firstBox dX1_firstBox_46 rfl ?_
      refine v_iadd hC dX1_firstBox_49 ?_
      refine v_iload_n hC dX1_firstBox_50 2 rfl ?_
      obtain ⟨g_3, h⟩ := gdn h
      refine v_irem hC dX1_firstBox_51 g_3 ?_
      exact v_iret hC rfl dX1_firstBox_52 h
    · replace h := ifn c_2 h
      by_cases c_4 : (gI σ i0 0) = 2
      · replace h := ift c_4 h
        refine v_tabIn (v := 2) (tgt := 53) c_4 hC dX1_firstBox_11 (by decide) (by decide) rfl (by decide) ?_
        refine v_iload_n hC dX1_firstBox_53 1 rfl ?_
        exact v_iret hC rfl dX1_firstBox_54 h
      · replace h := ifn c_4 h
        by_cases c_5 : (gI σ i0 0) = 3
        · replace h := ift c_5 h
          refine v_tabIn (v := 3) (tgt := 44) c_5 hC dX1_firstBox_11 (by decide) (by decide) rfl (by decide) ?_
          refine v_iload_n hC dX1_firstBox_44 1 rfl ?_
          refine v_aload_n hC dX1_firstBox_45 0 rfl ?_
          refine v_get (C := RX1) (T := TX1) (N := 3) (ci := 1) (k := 1) (v := .int (gI σ i0 1)) hC hO0 hi_X1_firstBox_X1 rfl (by decide) (by decide) rfl rfl fl22_X1_firstBox dX1_firstBox_46 rfl ?_
          refine v_iadd hC dX1_firstBox_49 ?_
          refine v_iload_n hC dX1_firstBox_50 2 rfl ?_
          obtain ⟨g_6, h⟩ := gdn h
          refine v_irem hC dX1_firstBox_51 g_6 ?_
          exact v_iret hC rfl dX1_firstBox_52 h
        · replace h := ifn c_5 h
          by_cases c_7 : (gI σ i0 0) = 4
          · replace h := ift c_7 h
            refine v_tabIn (v := 4) (tgt := 53) c_7 hC dX1_firstBox_11 (by decide) (by decide) rfl (by decide) ?_
            refine v_iload_n hC dX1_firstBox_53 1 rfl ?_
            exact v_iret hC rfl dX1_firstBox_54 h
          · replace h := ifn c_7 h
            by_cases c_8 : (gI σ i0 0) = 5
            · replace h := ift c_8 h
              refine v_tabIn (v := 5) (tgt := 44) c_8 hC dX1_firstBox_11 (by decide) (by decide) rfl (by decide) ?_
              refine v_iload_n hC dX1_firstBox_44 1 rfl ?_
              refine v_aload_n hC dX1_firstBox_45 0 rfl ?_
              refine v_get (C := RX1) (T := TX1) (N := 3) (ci := 1) (k := 1) (v := .int (gI σ i0 1)) hC hO0 hi_X1_firstBox_X1 rfl (by decide) (by decide) rfl rfl fl22_X1_firstBox dX1_firstBox_46 rfl ?_
              refine v_iadd hC dX1_firstBox_49 ?_
              refine v_iload_n hC dX1_firstBox_50 2 rfl ?_
              obtain ⟨g_9, h⟩ := gdn h
              refine v_irem hC dX1_firstBox_51 g_9 ?_
              exact v_iret hC rfl dX1_firstBox_52 h
            · replace h := ifn c_8 h
              have nc_2 : (Int32.toInt (gI σ i0 0)) ≠ 1 := fun q => c_2 (Int32.toInt_inj.mp q)
              have nc_4 : (Int32.toInt (gI σ i0 0)) ≠ 2 := fun q => c_4 (Int32.toInt_inj.mp q)
              have nc_5 : (Int32.toInt (gI σ i0 0)) ≠ 3 := fun q => c_5 (Int32.toInt_inj.mp q)
              have nc_7 : (Int32.toInt (gI σ i0 0)) ≠ 4 := fun q => c_7 (Int32.toInt_inj.mp q)
              have nc_8 : (Int32.toInt (gI σ i0 0)) ≠ 5 := fun q => c_8 (Int32.toInt_inj.mp q)
              refine v_tableOut (tgt := 55) hC dX1_firstBox_11 (by omega) (by decide) ?_
              refine v_iconst (v := 0) hC dX1_firstBox_55 (by decide) ?_
              exact v_iret hC rfl dX1_firstBox_56 h
  · replace h := ifn c_1 h
    refine v_iconst (v := 0) hC dX1_firstBox_5 (by decide) ?_
    exact v_iret hC rfl dX1_firstBox_6 h
theorem k_X1_firstBox {adK adV : Nat → Nat} {tb : Nat} (l : Launch) {G : WD}  {r0 : Int32} {τ : HS} {i0 : Nat} {p1 : Int32} {p2 : Int32} {σ : HS}  (hG : GX G xY) (hO0 : Ob G xY i0 1) (h : c_X1_firstBox i0 p1 p2 σ = some (r0, τ)) : MI (xE adK adV tb) l yX1_firstBox wsX1_firstBox rmX1_firstBox G xY [.ref (G.2.2.1 i0), .int p1, .int p2] σ r0 τ :=
  MI.of RX1 (by decide) rfl rfl (Nat.le_of_ble_eq_true rfl) rfl rfl (fun p e s m below meth c hC => w_X1_firstBox  hG hO0 hC h)
abbrev rmX1_boxBehind : Room := { frames := 0, cells := 0, slots := 0, locals := 0 }
def c_X1_boxBehind (i0 : Nat) (p1 : Int32) (p2 : Int32) (p3 : Int32) (p4 : Int32) (σ : HS) : Option (Int32 × HS) := (if 1 ≤ p4 then (if p4 = 0 then none else (if (gI σ i0 0) = 2 then (if p2 = (-1) then (some ((irm (p1 + 1) p4), σ)) else (some (p2, σ))) else (if (gI σ i0 0) = 3 then (if p2 = (-1) then (some ((irm (p1 + 1) p4), σ)) else (if p4 = 0 then none else (some ((irm (p2 + (gI σ i0 1)) p4), σ)))) else (if (gI σ i0 0) = 4 then (if p2 = (-1) then (some ((irm (p1 + 1) p4), σ)) else (if p3 = (gI σ i0 1) then (some ((irm (p1 + 1) p4), σ)) else (some (p2, σ)))) else (if (gI σ i0 0) = 5 then (if p4 = 0 then none else (some ((irm ((p1 + p4) - 1) p4), σ))) else (some ((irm (p1 + 1) p4), σ))))))) else (some (0, σ)))
set_option maxHeartbeats 4000000 in
set_option maxRecDepth 100000 in
theorem w_X1_boxBehind {adK adV : Nat → Nat} {tb : Nat} {p : Program} {l : Launch} {e : Env} {s : State} {m : MethodId} {args : Array Value} {below : List Frame} {meth : Method} {c : Code} {A : Nat → Prop} {G : WD}  {r0 : Int32} {τ : HS} {i0 : Nat} {p1 : Int32} {p2 : Int32} {p3 : Int32} {p4 : Int32} {σ : HS}  (hG : GX G xY) (hO0 : Ob G xY i0 1) (hC : Cx (xE adK adV tb) G.1 G.2.1 xY cX1_boxBehind 6 (some .int) RX1 wsX1_boxBehind p s m args meth c A) (h : c_X1_boxBehind i0 p1 p2 p3 p4 σ = some (r0, τ)) : V p l e rmX1_boxBehind s m args below meth c 6 A G xY 0 0 (MQ below (QI G xY A r0 τ) args s 0 0 A) σ 0 [(0, .ref (G.2.2.1 i0)), (1, .int p1), (2, .int p2), (3, .int p3), (4, .int p4)] [] := by
  rw [c_X1_boxBehind] at h
  refine v_iload hC dX1_boxBehind_0 4 rfl ?_
  refine v_iconst (v := 1) hC dX1_boxBehind_2 (by decide) ?_
  refine v_icmp_ge (tgt := 8) hC dX1_boxBehind_3 (by decide) (fun c_1 => ?_) (fun c_1 => ?_)
  · replace h := ift c_1 h
    refine v_iload_n hC dX1_boxBehind_8 1 rfl ?_
    refine v_iconst (v := 1) hC dX1_boxBehind_9 (by decide) ?_
    refine v_iadd hC dX1_boxBehind_10 ?_
    refine v_iload hC dX1_boxBehind_11 4 rfl ?_
    obtain ⟨g_2, h⟩ := gdn h
    refine v_irem hC dX1_boxBehind_13 g_2 ?_
    refine v_istore (L' := [(0, .ref (G.2.2.1 i0)), (1, .int p1), (2, .int p2), (3, .int p3), (4, .int p4), (5, .int (irm (p1 + 1) p4))]) hC dX1_boxBehind_14 (by decide) [1, 2, 3, 4, 5, 0] rfl ?_
    refine v_aload_n hC dX1_boxBehind_16 0 rfl ?_
    refine v_get (C := RX1) (T := TX1) (N := 3) (ci := 1) (k := 0) (v := .int (gI σ i0 0)) hC hO0 hi_X1_boxBehind_X1 rfl (by decide) (by decide) rfl rfl fl18_X1_boxBehind dX1_boxBehind_17 rfl ?_
    by_cases c_3 : (gI σ i0 0) = 2
    · replace h := ift c_3 h
      refine v_tabIn (v := 2) (tgt := 52) c_3 hC dX1_boxBehind_20 (by decide) (by decide) rfl (by decide) ?_
      refine v_iload_n hC dX1_boxBehind_52 2 rfl ?_
      refine v_iconst (v := (-1)) hC dX1_boxBehind_53 (by decide) ?_
      refine v_icmp_ne (tgt := 62) hC dX1_boxBehind_54 (by decide) (fun c_4 => ?_) (fun c_4 => ?_)
      · replace h := ifn c_4 h
        refine v_iload_n hC dX1_boxBehind_62 2 rfl ?_
        exact v_iret hC rfl dX1_boxBehind_63 h
      · replace h := ift c_4 h
        refine v_iload hC dX1_boxBehind_57 5 rfl ?_
        refine v_goto (tgt := 63) hC dX1_boxBehind_59 (by decide) ?_
        exact v_iret hC rfl dX1_boxBehind_63 h
    · replace h := ifn c_3 h
      by_cases c_5 : (gI σ i0 0) = 3
      · replace h := ift c_5 h
        refine v_tabIn (v := 3) (tgt := 64) c_5 hC dX1_boxBehind_20 (by decide) (by decide) rfl (by decide) ?_
        refine v_iload_n hC dX1_boxBehind_64 2 rfl ?_
        refine v_iconst (v := (-1)) hC dX1_boxBehind_65 (by decide) ?_
        refine v_icmp_ne (tgt := 74) hC dX1_boxBehind_66 (by decide) (fun c_6 => ?_) (fun c_6 => ?_)
        · replace h := ifn c_6 h
          refine v_iload_n hC dX1_boxBehind_74 2 rfl ?_
          refine v_aload_n hC dX1_boxBehind_75 0 rfl ?_
          refine v_get (C := RX1) (T := TX1) (N := 3) (ci := 1) (k := 1) (v := .int (gI σ i0 1)) hC hO0 hi_X1_boxBehind_X1 rfl (by decide) (by decide) rfl rfl fl22_X1_boxBehind dX1_boxBehind_76 rfl ?_
          refine v_iadd hC dX1_boxBehind_79 ?_
          refine v_iload hC dX1_boxBehind_80 4 rfl ?_
          obtain ⟨g_7, h⟩ := gdn h
          refine v_irem hC dX1_boxBehind_82 g_7 ?_
          exact v_iret hC rfl dX1_boxBehind_83 h
        · replace h := ift c_6 h
          refine v_iload hC dX1_boxBehind_69 5 rfl ?_
          refine v_goto (tgt := 83) hC dX1_boxBehind_71 (by decide) ?_
          exact v_iret hC rfl dX1_boxBehind_83 h
      · replace h := ifn c_5 h
        by_cases c_8 : (gI σ i0 0) = 4
        · replace h := ift c_8 h
          refine v_tabIn (v := 4) (tgt := 84) c_8 hC dX1_boxBehind_20 (by decide) (by decide) rfl (by decide) ?_
          refine v_iload_n hC dX1_boxBehind_84 2 rfl ?_
          refine v_iconst (v := (-1)) hC dX1_boxBehind_85 (by decide) ?_
          refine v_icmp_eq (tgt := 97) hC dX1_boxBehind_86 (by decide) (fun c_9 => ?_) (fun c_9 => ?_)
          · replace h := ift c_9 h
            refine v_iload hC dX1_boxBehind_97 5 rfl ?_
            refine v_goto (tgt := 103) hC dX1_boxBehind_99 (by decide) ?_
            exact v_iret hC rfl dX1_boxBehind_103 h
          · replace h := ifn c_9 h
            refine v_iload_n hC dX1_boxBehind_89 3 rfl ?_
            refine v_aload_n hC dX1_boxBehind_90 0 rfl ?_
            refine v_get (C := RX1) (T := TX1) (N := 3) (ci := 1) (k := 1) (v := .int (gI σ i0 1)) hC hO0 hi_X1_boxBehind_X1 rfl (by decide) (by decide) rfl rfl fl22_X1_boxBehind dX1_boxBehind_91 rfl ?_
            refine v_icmp_ne (tgt := 102) hC dX1_boxBehind_94 (by decide) (fun c_10 => ?_) (fun c_10 => ?_)
            · replace h := ifn c_10 h
              refine v_iload_n hC dX1_boxBehind_102 2 rfl ?_
              exact v_iret hC rfl dX1_boxBehind_103 h
            · replace h := ift c_10 h
              refine v_iload hC dX1_boxBehind_97 5 rfl ?_
              refine v_goto (tgt := 103) hC dX1_boxBehind_99 (by decide) ?_
              exact v_iret hC rfl dX1_boxBehind_103 h
        · replace h := ifn c_8 h
          by_cases c_11 : (gI σ i0 0) = 5
          · replace h := ift c_11 h
            refine v_tabIn (v := 5) (tgt := 104) c_11 hC dX1_boxBehind_20 (by decide) (by decide) rfl (by decide) ?_
            refine v_iload_n hC dX1_boxBehind_104 1 rfl ?_
            refine v_iload hC dX1_boxBehind_105 4 rfl ?_
            refine v_iadd hC dX1_boxBehind_107 ?_
            refine v_iconst (v := 1) hC dX1_boxBehind_108 (by decide) ?_
            refine v_isub hC dX1_boxBehind_109 ?_
            refine v_iload hC dX1_boxBehind_110 4 rfl ?_
            obtain ⟨g_12, h⟩ := gdn h
            refine v_irem hC dX1_boxBehind_112 g_12 ?_
            exact v_iret hC rfl dX1_boxBehind_113 h
          · replace h := ifn c_11 h
            have nc_3 : (Int32.toInt (gI σ i0 0)) ≠ 2 := fun q => c_3 (Int32.toInt_inj.mp q)
            have nc_5 : (Int32.toInt (gI σ i0 0)) ≠ 3 := fun q => c_5 (Int32.toInt_inj.mp q)
            have nc_8 : (Int32.toInt (gI σ i0 0)) ≠ 4 := fun q => c_8 (Int32.toInt_inj.mp q)
            have nc_11 : (Int32.toInt (gI σ i0 0)) ≠ 5 := fun q => c_11 (Int32.toInt_inj.mp q)
            refine v_tableOut (tgt := 114) hC dX1_boxBehind_20 (by omega) (by decide) ?_
            refine v_iload hC dX1_boxBehind_114 5 rfl ?_
            exact v_iret hC rfl dX1_boxBehind_116 h
  · replace h := ifn c_1 h
    refine v_iconst (v := 0) hC dX1_boxBehind_6 (by decide) ?_
    exact v_iret hC rfl dX1_boxBehind_7 h
theorem k_X1_boxBehind {adK adV : Nat → Nat} {tb : Nat} (l : Launch) {G : WD}  {r0 : Int32} {τ : HS} {i0 : Nat} {p1 : Int32} {p2 : Int32} {p3 : Int32} {p4 : Int32} {σ : HS}  (hG : GX G xY) (hO0 : Ob G xY i0 1) (h : c_X1_boxBehind i0 p1 p2 p3 p4 σ = some (r0, τ)) : MI (xE adK adV tb) l yX1_boxBehind wsX1_boxBehind rmX1_boxBehind G xY [.ref (G.2.2.1 i0), .int p1, .int p2, .int p3, .int p4] σ r0 τ :=
  MI.of RX1 (by decide) rfl rfl (Nat.le_of_ble_eq_true rfl) rfl rfl (fun p e s m below meth c hC => w_X1_boxBehind  hG hO0 hC h)
abbrev rmX1_lookThatFinds : Room := { frames := 1, cells := 0, slots := 0, locals := 25 }
def c_X1_lookThatFinds_18 : Nat → Nat → Nat → Int32 → Int32 → Int32 → Int32 → Int32 → HS → Option (Int32 × HS)
  | 0, _, _, _, _, _, _, _, _ => none
  | n + 1, i0, i1, x2, x3, x4, x5, x6, σ => (if x3 < x6 then (some (0, σ)) else (bi2 (c_X0_at i1 x5 σ) (fun r7 s6 => (if r7 = x2 then (some (x6, s6)) else (bi2 (c_X1_boxBehind i0 x5 r7 x6 x4 s6) (fun r11 s10 => (c_X1_lookThatFinds_18 n i0 i1 x2 x3 x4 r11 (x6 + 1) s10)))))))
set_option maxHeartbeats 4000000 in
set_option maxRecDepth 100000 in
theorem w_X1_lookThatFinds_18 {adK adV : Nat → Nat} {tb : Nat} {p : Program} {l : Launch} {e : Env} {s : State} {m : MethodId} {args : Array Value} {below : List Frame} {meth : Method} {c : Code} {A : Nat → Prop} {G : WD}  {r0 : Int32} {τ : HS} {i0 : Nat} {i1 : Nat}  (hG : GX G xY) (hO0 : Ob G xY i0 1) (hO1 : Ob G xY i1 0) (hC : Cx (xE adK adV tb) G.1 G.2.1 xY cX1_lookThatFinds 8 (some .int) RX1 wsX1_lookThatFinds p s m args meth c A)  : ∀ (n : Nat) (x2 : Int32) (x3 : Int32) (x4 : Int32) (x5 : Int32) (x6 : Int32) (σ : HS), c_X1_lookThatFinds_18 n i0 i1 x2 x3 x4 x5 x6 σ = some (r0, τ) → V p l e rmX1_lookThatFinds s m args below meth c 8 A G xY 0 0 (MQ below (QI G xY A r0 τ) args s 0 0 A) σ 18 [(0, .ref (G.2.2.1 i0)), (1, .ref (G.2.2.1 i1)), (2, .int x2), (3, .int x3), (4, .int x4), (5, .int x5), (6, .int x6)] [] := by
  intro n
  induction n with
  | zero => intro x2 x3 x4 x5 x6 σ h; exact nof h
  | succ n ih =>
    intro x2 x3 x4 x5 x6 σ h
    rw [c_X1_lookThatFinds_18] at h
    refine v_iload hC dX1_lookThatFinds_18 6 rfl ?_
    refine v_iload_n hC dX1_lookThatFinds_20 3 rfl ?_
    refine v_icmp_gt (tgt := 61) hC dX1_lookThatFinds_21 (by decide) (fun c_4 => ?_) (fun c_4 => ?_)
    · replace h := ift c_4 h
      refine v_iconst (v := 0) hC dX1_lookThatFinds_61 (by decide) ?_
      exact v_iret hC rfl dX1_lookThatFinds_62 h
    · replace h := ifn c_4 h
      refine v_aload_n hC dX1_lookThatFinds_24 1 rfl ?_
      refine v_iload hC dX1_lookThatFinds_25 5 rfl ?_
      obtain ⟨r7, s6, hc_5, h⟩ := bd2 h
      refine v_callVI hC xE_ok (n := 1) (As := [.int x5]) (k_X0_at l hG (hO1) hc_5) (cwV 1 hC.1.2.2.2.2 gX1_lookThatFinds_X0_at rfl rfl rfl (by decide +kernel) ⟨(Nat.le_of_ble_eq_true rfl), (Nat.le_of_ble_eq_true rfl)⟩) hO1 (by decide) rfl rfl rfl (Nat.le_of_ble_eq_true rfl) ⟨Nat.zero_le _, Nat.zero_le _⟩ dX1_lookThatFinds_27 rfl ?_
      refine v_istore (L' := [(0, .ref (G.2.2.1 i0)), (1, .ref (G.2.2.1 i1)), (2, .int x2), (3, .int x3), (4, .int x4), (5, .int x5), (6, .int x6), (7, .int r7)]) hC dX1_lookThatFinds_30 (by decide) [1, 2, 3, 4, 5, 6, 7, 0] rfl ?_
      refine v_iload hC dX1_lookThatFinds_32 7 rfl ?_
      refine v_iload_n hC dX1_lookThatFinds_34 2 rfl ?_
      refine v_icmp_ne (tgt := 41) hC dX1_lookThatFinds_35 (by decide) (fun c_8 => ?_) (fun c_8 => ?_)
      · replace h := ifn c_8 h
        refine v_aload_n hC dX1_lookThatFinds_41 0 rfl ?_
        refine v_iload hC dX1_lookThatFinds_42 5 rfl ?_
        refine v_iload hC dX1_lookThatFinds_44 7 rfl ?_
        refine v_iload hC dX1_lookThatFinds_46 6 rfl ?_
        refine v_iload hC dX1_lookThatFinds_48 4 rfl ?_
        obtain ⟨r11, s10, hc_9, h⟩ := bd2 h
        refine v_callVI hC xE_ok (n := 4) (As := [.int x5, .int r7, .int x6, .int x4]) (k_X1_boxBehind l hG (hO0) hc_9) (cwV 4 hC.1.2.2.2.2 gX1_lookThatFinds_X1_boxBehind rfl rfl rfl (by decide +kernel) ⟨(Nat.le_of_ble_eq_true rfl), (Nat.le_of_ble_eq_true rfl)⟩) hO0 (by decide) rfl rfl rfl (Nat.le_of_ble_eq_true rfl) ⟨Nat.zero_le _, Nat.zero_le _⟩ dX1_lookThatFinds_50 rfl ?_
        refine v_istore (L' := [(0, .ref (G.2.2.1 i0)), (1, .ref (G.2.2.1 i1)), (2, .int x2), (3, .int x3), (4, .int x4), (5, .int r11), (6, .int x6)]) hC dX1_lookThatFinds_53 (by decide) [1, 2, 3, 4, 5, 0, 6] rfl ?_
        refine v_iinc (v := (x6 + 1)) (L' := [(0, .ref (G.2.2.1 i0)), (1, .ref (G.2.2.1 i1)), (2, .int x2), (3, .int x3), (4, .int x4), (5, .int r11), (6, .int (x6 + 1))]) hC dX1_lookThatFinds_55 6 rfl rfl (by decide) [1, 2, 3, 4, 5, 6, 0] rfl ?_
        refine v_goto (tgt := 18) hC dX1_lookThatFinds_58 (by decide) ?_
        exact ih _ _ _ _ _ _ h
      · replace h := ift c_8 h
        refine v_iload hC dX1_lookThatFinds_38 6 rfl ?_
        exact v_iret hC rfl dX1_lookThatFinds_40 h
def c_X1_lookThatFinds (i0 : Nat) (i1 : Nat) (p2 : Int32) (p3 : Int32) (σ : HS) : Option (Int32 × HS) := (bi2 (c_X1_firstBox i0 p2 (gI σ i1 1) σ) (fun r3 s2 => (c_X1_lookThatFinds_18 FU i0 i1 p2 p3 (gI σ i1 1) r3 1 s2)))
set_option maxHeartbeats 4000000 in
set_option maxRecDepth 100000 in
theorem w_X1_lookThatFinds {adK adV : Nat → Nat} {tb : Nat} {p : Program} {l : Launch} {e : Env} {s : State} {m : MethodId} {args : Array Value} {below : List Frame} {meth : Method} {c : Code} {A : Nat → Prop} {G : WD}  {r0 : Int32} {τ : HS} {i0 : Nat} {i1 : Nat} {p2 : Int32} {p3 : Int32} {σ : HS}  (hG : GX G xY) (hO0 : Ob G xY i0 1) (hO1 : Ob G xY i1 0) (hC : Cx (xE adK adV tb) G.1 G.2.1 xY cX1_lookThatFinds 8 (some .int) RX1 wsX1_lookThatFinds p s m args meth c A) (h : c_X1_lookThatFinds i0 i1 p2 p3 σ = some (r0, τ)) : V p l e rmX1_lookThatFinds s m args below meth c 8 A G xY 0 0 (MQ below (QI G xY A r0 τ) args s 0 0 A) σ 0 [(0, .ref (G.2.2.1 i0)), (1, .ref (G.2.2.1 i1)), (2, .int p2), (3, .int p3)] [] := by
  rw [c_X1_lookThatFinds] at h
  refine v_aload_n hC dX1_lookThatFinds_0 1 rfl ?_
  refine v_getN (C := RX0) (T := TX0) (N := 5) (ci := 0) (k := 1) (v := .int (gI σ i1 1)) hC hO1 hi_X1_lookThatFinds_X0 rfl (by decide) (by decide) rfl rfl (xE_nf_X1_33 hC.2.2.2.2.2) dX1_lookThatFinds_1 rfl ?_
  refine v_istore (L' := [(0, .ref (G.2.2.1 i0)), (1, .ref (G.2.2.1 i1)), (2, .int p2), (3, .int p3), (4, .int (gI σ i1 1))]) hC dX1_lookThatFinds_4 (by decide) [1, 2, 3, 4, 0] rfl ?_
  refine v_aload_n hC dX1_lookThatFinds_6 0 rfl ?_
  refine v_iload_n hC dX1_lookThatFinds_7 2 rfl ?_
  refine v_iload hC dX1_lookThatFinds_8 4 rfl ?_
  obtain ⟨r3, s2, hc_1, h⟩ := bd2 h
  refine v_callVI hC xE_ok (n := 2) (As := [.int p2, .int (gI σ i1 1)]) (k_X1_firstBox l hG (hO0) hc_1) (cwV 2 hC.1.2.2.2.2 gX1_lookThatFinds_X1_firstBox rfl rfl rfl (by decide +kernel) ⟨(Nat.le_of_ble_eq_true rfl), (Nat.le_of_ble_eq_true rfl)⟩) hO0 (by decide) rfl rfl rfl (Nat.le_of_ble_eq_true rfl) ⟨Nat.zero_le _, Nat.zero_le _⟩ dX1_lookThatFinds_10 rfl ?_
  refine v_istore (L' := [(0, .ref (G.2.2.1 i0)), (1, .ref (G.2.2.1 i1)), (2, .int p2), (3, .int p3), (4, .int (gI σ i1 1)), (5, .int r3)]) hC dX1_lookThatFinds_13 (by decide) [1, 2, 3, 4, 5, 0] rfl ?_
  refine v_iconst (v := 1) hC dX1_lookThatFinds_15 (by decide) ?_
  refine v_istore (L' := [(0, .ref (G.2.2.1 i0)), (1, .ref (G.2.2.1 i1)), (2, .int p2), (3, .int p3), (4, .int (gI σ i1 1)), (5, .int r3), (6, .int 1)]) hC dX1_lookThatFinds_16 (by decide) [1, 2, 3, 4, 5, 6, 0] rfl ?_
  exact w_X1_lookThatFinds_18 hG (hO0) (hO1) hC FU _ _ _ _ _ _ h
theorem k_X1_lookThatFinds {adK adV : Nat → Nat} {tb : Nat} (l : Launch) {G : WD}  {r0 : Int32} {τ : HS} {i0 : Nat} {i1 : Nat} {p2 : Int32} {p3 : Int32} {σ : HS}  (hG : GX G xY) (hO0 : Ob G xY i0 1) (hO1 : Ob G xY i1 0) (h : c_X1_lookThatFinds i0 i1 p2 p3 σ = some (r0, τ)) : MI (xE adK adV tb) l yX1_lookThatFinds wsX1_lookThatFinds rmX1_lookThatFinds G xY [.ref (G.2.2.1 i0), .ref (G.2.2.1 i1), .int p2, .int p3] σ r0 τ :=
  MI.of RX1 (by decide) rfl rfl (Nat.le_of_ble_eq_true rfl) rfl rfl (fun p e s m below meth c hC => w_X1_lookThatFinds  hG hO0 hO1 hC h)
abbrev rmX3_isMissing : Room := { frames := 0, cells := 0, slots := 0, locals := 0 }
def c_X3_isMissing (i0 : Nat) (σ : HS) : Option (Int32 × HS) := (if (gI σ i0 1) = (-1) then (some (1, σ)) else (some (0, σ)))
set_option maxHeartbeats 4000000 in
set_option maxRecDepth 100000 in
theorem w_X3_isMissing {adK adV : Nat → Nat} {tb : Nat} {p : Program} {l : Launch} {e : Env} {s : State} {m : MethodId} {args : Array Value} {below : List Frame} {meth : Method} {c : Code} {A : Nat → Prop} {G : WD}  {r0 : Int32} {τ : HS} {i0 : Nat} {σ : HS}  (hG : GX G xY) (hO0 : Ob G xY i0 3) (hC : Cx (xE adK adV tb) G.1 G.2.1 xY cX3_isMissing 1 (some .boolean) RX3 wsX3_isMissing p s m args meth c A) (h : c_X3_isMissing i0 σ = some (r0, τ)) : V p l e rmX3_isMissing s m args below meth c 1 A G xY 0 0 (MQ below (QI G xY A r0 τ) args s 0 0 A) σ 0 [(0, .ref (G.2.2.1 i0))] [] := by
  rw [c_X3_isMissing] at h
  refine v_aload_n hC dX3_isMissing_0 0 rfl ?_
  refine v_get (C := RX3) (T := TX3) (N := 3) (ci := 3) (k := 1) (v := .int (gI σ i0 1)) hC hO0 hi_X3_isMissing_X3 rfl (by decide) (by decide) rfl rfl fl15_X3_isMissing dX3_isMissing_1 rfl ?_
  refine v_iconst (v := (-1)) hC dX3_isMissing_4 (by decide) ?_
  refine v_icmp_ne (tgt := 12) hC dX3_isMissing_5 (by decide) (fun c_1 => ?_) (fun c_1 => ?_)
  · replace h := ifn c_1 h
    refine v_iconst (v := 0) hC dX3_isMissing_12 (by decide) ?_
    exact v_zret hC rfl rfl dX3_isMissing_13 h
  · replace h := ift c_1 h
    refine v_iconst (v := 1) hC dX3_isMissing_8 (by decide) ?_
    refine v_goto (tgt := 13) hC dX3_isMissing_9 (by decide) ?_
    exact v_zret hC rfl rfl dX3_isMissing_13 h
theorem k_X3_isMissing {adK adV : Nat → Nat} {tb : Nat} (l : Launch) {G : WD}  {r0 : Int32} {τ : HS} {i0 : Nat} {σ : HS}  (hG : GX G xY) (hO0 : Ob G xY i0 3) (h : c_X3_isMissing i0 σ = some (r0, τ)) : MI (xE adK adV tb) l yX3_isMissing wsX3_isMissing rmX3_isMissing G xY [.ref (G.2.2.1 i0)] σ r0 τ :=
  MI.of RX3 (by decide) rfl rfl (Nat.le_of_ble_eq_true rfl) rfl rfl (fun p e s m below meth c hC => w_X3_isMissing  hG hO0 hC h)
abbrev rmX3_has : Room := { frames := 0, cells := 0, slots := 0, locals := 0 }
def c_X3_has (i0 : Nat) (p1 : Int32) (σ : HS) : Option (Int32 × HS) := (if p1 < 0 then (some (0, σ)) else (if (gI σ i0 2) ≤ p1 then (some (0, σ)) else (some (1, σ))))
set_option maxHeartbeats 4000000 in
set_option maxRecDepth 100000 in
theorem w_X3_has {adK adV : Nat → Nat} {tb : Nat} {p : Program} {l : Launch} {e : Env} {s : State} {m : MethodId} {args : Array Value} {below : List Frame} {meth : Method} {c : Code} {A : Nat → Prop} {G : WD}  {r0 : Int32} {τ : HS} {i0 : Nat} {p1 : Int32} {σ : HS}  (hG : GX G xY) (hO0 : Ob G xY i0 3) (hC : Cx (xE adK adV tb) G.1 G.2.1 xY cX3_has 2 (some .boolean) RX3 wsX3_has p s m args meth c A) (h : c_X3_has i0 p1 σ = some (r0, τ)) : V p l e rmX3_has s m args below meth c 2 A G xY 0 0 (MQ below (QI G xY A r0 τ) args s 0 0 A) σ 0 [(0, .ref (G.2.2.1 i0)), (1, .int p1)] [] := by
  rw [c_X3_has] at h
  refine v_iload_n hC dX3_has_0 1 rfl ?_
  refine v_if_lt (tgt := 16) hC dX3_has_1 (by decide) (fun c_1 => ?_) (fun c_1 => ?_)
  · replace h := ift c_1 h
    refine v_iconst (v := 0) hC dX3_has_16 (by decide) ?_
    exact v_zret hC rfl rfl dX3_has_17 h
  · replace h := ifn c_1 h
    refine v_iload_n hC dX3_has_4 1 rfl ?_
    refine v_aload_n hC dX3_has_5 0 rfl ?_
    refine v_get (C := RX3) (T := TX3) (N := 3) (ci := 3) (k := 2) (v := .int (gI σ i0 2)) hC hO0 hi_X3_has_X3 rfl (by decide) (by decide) rfl rfl fl19_X3_has dX3_has_6 rfl ?_
    refine v_icmp_ge (tgt := 16) hC dX3_has_9 (by decide) (fun c_2 => ?_) (fun c_2 => ?_)
    · replace h := ift c_2 h
      refine v_iconst (v := 0) hC dX3_has_16 (by decide) ?_
      exact v_zret hC rfl rfl dX3_has_17 h
    · replace h := ifn c_2 h
      refine v_iconst (v := 1) hC dX3_has_12 (by decide) ?_
      refine v_goto (tgt := 17) hC dX3_has_13 (by decide) ?_
      exact v_zret hC rfl rfl dX3_has_17 h
theorem k_X3_has {adK adV : Nat → Nat} {tb : Nat} (l : Launch) {G : WD}  {r0 : Int32} {τ : HS} {i0 : Nat} {p1 : Int32} {σ : HS}  (hG : GX G xY) (hO0 : Ob G xY i0 3) (h : c_X3_has i0 p1 σ = some (r0, τ)) : MI (xE adK adV tb) l yX3_has wsX3_has rmX3_has G xY [.ref (G.2.2.1 i0), .int p1] σ r0 τ :=
  MI.of RX3 (by decide) rfl rfl (Nat.le_of_ble_eq_true rfl) rfl rfl (fun p e s m below meth c hC => w_X3_has  hG hO0 hC h)
abbrev rmX3_hasAll : Room := { frames := 0, cells := 0, slots := 0, locals := 0 }
def c_X3_hasAll (i0 : Nat) (p1 : Int32) (p2 : Int32) (σ : HS) : Option (Int32 × HS) := (if p1 < 0 then (some (0, σ)) else (if p2 < 0 then (some (0, σ)) else (if (gI σ i0 2) < p2 then (some (0, σ)) else (if ((gI σ i0 2) - p2) < p1 then (some (0, σ)) else (some (1, σ))))))
set_option maxHeartbeats 4000000 in
set_option maxRecDepth 100000 in
theorem w_X3_hasAll {adK adV : Nat → Nat} {tb : Nat} {p : Program} {l : Launch} {e : Env} {s : State} {m : MethodId} {args : Array Value} {below : List Frame} {meth : Method} {c : Code} {A : Nat → Prop} {G : WD}  {r0 : Int32} {τ : HS} {i0 : Nat} {p1 : Int32} {p2 : Int32} {σ : HS}  (hG : GX G xY) (hO0 : Ob G xY i0 3) (hC : Cx (xE adK adV tb) G.1 G.2.1 xY cX3_hasAll 3 (some .boolean) RX3 wsX3_hasAll p s m args meth c A) (h : c_X3_hasAll i0 p1 p2 σ = some (r0, τ)) : V p l e rmX3_hasAll s m args below meth c 3 A G xY 0 0 (MQ below (QI G xY A r0 τ) args s 0 0 A) σ 0 [(0, .ref (G.2.2.1 i0)), (1, .int p1), (2, .int p2)] [] := by
  rw [c_X3_hasAll] at h
  refine v_iload_n hC dX3_hasAll_0 1 rfl ?_
  refine v_if_lt (tgt := 30) hC dX3_hasAll_1 (by decide) (fun c_1 => ?_) (fun c_1 => ?_)
  · replace h := ift c_1 h
    refine v_iconst (v := 0) hC dX3_hasAll_30 (by decide) ?_
    exact v_zret hC rfl rfl dX3_hasAll_31 h
  · replace h := ifn c_1 h
    refine v_iload_n hC dX3_hasAll_4 2 rfl ?_
    refine v_if_lt (tgt := 30) hC dX3_hasAll_5 (by decide) (fun c_2 => ?_) (fun c_2 => ?_)
    · replace h := ift c_2 h
      refine v_iconst (v := 0) hC dX3_hasAll_30 (by decide) ?_
      exact v_zret hC rfl rfl dX3_hasAll_31 h
    · replace h := ifn c_2 h
      refine v_iload_n hC dX3_hasAll_8 2 rfl ?_
      refine v_aload_n hC dX3_hasAll_9 0 rfl ?_
      refine v_get (C := RX3) (T := TX3) (N := 3) (ci := 3) (k := 2) (v := .int (gI σ i0 2)) hC hO0 hi_X3_hasAll_X3 rfl (by decide) (by decide) rfl rfl fl19_X3_hasAll dX3_hasAll_10 rfl ?_
      refine v_icmp_gt (tgt := 30) hC dX3_hasAll_13 (by decide) (fun c_3 => ?_) (fun c_3 => ?_)
      · replace h := ift c_3 h
        refine v_iconst (v := 0) hC dX3_hasAll_30 (by decide) ?_
        exact v_zret hC rfl rfl dX3_hasAll_31 h
      · replace h := ifn c_3 h
        refine v_iload_n hC dX3_hasAll_16 1 rfl ?_
        refine v_aload_n hC dX3_hasAll_17 0 rfl ?_
        refine v_get (C := RX3) (T := TX3) (N := 3) (ci := 3) (k := 2) (v := .int (gI σ i0 2)) hC hO0 hi_X3_hasAll_X3 rfl (by decide) (by decide) rfl rfl fl19_X3_hasAll dX3_hasAll_18 rfl ?_
        refine v_iload_n hC dX3_hasAll_21 2 rfl ?_
        refine v_isub hC dX3_hasAll_22 ?_
        refine v_icmp_gt (tgt := 30) hC dX3_hasAll_23 (by decide) (fun c_4 => ?_) (fun c_4 => ?_)
        · replace h := ift c_4 h
          refine v_iconst (v := 0) hC dX3_hasAll_30 (by decide) ?_
          exact v_zret hC rfl rfl dX3_hasAll_31 h
        · replace h := ifn c_4 h
          refine v_iconst (v := 1) hC dX3_hasAll_26 (by decide) ?_
          refine v_goto (tgt := 31) hC dX3_hasAll_27 (by decide) ?_
          exact v_zret hC rfl rfl dX3_hasAll_31 h
theorem k_X3_hasAll {adK adV : Nat → Nat} {tb : Nat} (l : Launch) {G : WD}  {r0 : Int32} {τ : HS} {i0 : Nat} {p1 : Int32} {p2 : Int32} {σ : HS}  (hG : GX G xY) (hO0 : Ob G xY i0 3) (h : c_X3_hasAll i0 p1 p2 σ = some (r0, τ)) : MI (xE adK adV tb) l yX3_hasAll wsX3_hasAll rmX3_hasAll G xY [.ref (G.2.2.1 i0), .int p1, .int p2] σ r0 τ :=
  MI.of RX3 (by decide) rfl rfl (Nat.le_of_ble_eq_true rfl) rfl rfl (fun p e s m below meth c hC => w_X3_hasAll  hG hO0 hC h)
abbrev rmX3_at : Room := { frames := 1, cells := 0, slots := 0, locals := 21 }
def c_X3_at (i0 : Nat) (p1 : Int32) (σ : HS) : Option (Int32 × HS) := (bi2 (c_X3_has i0 p1 σ) (fun r3 s2 => (if r3 = 0 then (some (0, s2)) else (if inb p1 40 = true then (some ((gI s2 (i0 + 1) (ix p1)), s2)) else none))))
set_option maxHeartbeats 4000000 in
set_option maxRecDepth 100000 in
theorem w_X3_at {adK adV : Nat → Nat} {tb : Nat} {p : Program} {l : Launch} {e : Env} {s : State} {m : MethodId} {args : Array Value} {below : List Frame} {meth : Method} {c : Code} {A : Nat → Prop} {G : WD}  {r0 : Int32} {τ : HS} {i0 : Nat} {p1 : Int32} {σ : HS}  (hG : GX G xY) (hO0 : Ob G xY i0 3) (hC : Cx (xE adK adV tb) G.1 G.2.1 xY cX3_at 2 (some .int) RX3 wsX3_at p s m args meth c A) (h : c_X3_at i0 p1 σ = some (r0, τ)) : V p l e rmX3_at s m args below meth c 2 A G xY 0 0 (MQ below (QI G xY A r0 τ) args s 0 0 A) σ 0 [(0, .ref (G.2.2.1 i0)), (1, .int p1)] [] := by
  rw [c_X3_at] at h
  refine v_aload_n hC dX3_at_0 0 rfl ?_
  refine v_iload_n hC dX3_at_1 1 rfl ?_
  obtain ⟨r3, s2, hc_1, h⟩ := bd2 h
  refine v_callVI hC xE_ok (n := 1) (As := [.int p1]) (k_X3_has l hG (hO0) hc_1) (cwV 1 hC.1.2.2.2.2 gX3_at_X3_has rfl rfl rfl (by decide +kernel) ⟨(Nat.le_of_ble_eq_true rfl), (Nat.le_of_ble_eq_true rfl)⟩) hO0 (by decide) rfl rfl rfl (Nat.le_of_ble_eq_true rfl) ⟨Nat.zero_le _, Nat.zero_le _⟩ dX3_at_2 rfl ?_
  refine v_if_eq (tgt := 17) hC dX3_at_5 (by decide) (fun c_4 => ?_) (fun c_4 => ?_)
  · replace h := ift c_4 h
    refine v_iconst (v := 0) hC dX3_at_17 (by decide) ?_
    exact v_iret hC rfl dX3_at_18 h
  · replace h := ifn c_4 h
    refine v_aload_n hC dX3_at_8 0 rfl ?_
    refine v_get (C := RX3) (T := TX3) (N := 3) (ci := 3) (k := 0) (v := .ref (G.2.2.1 (i0 + 1))) hC hO0 hi_X3_at_X3 rfl (by decide) (by decide) rfl rfl fl9_X3_at dX3_at_9 rfl ?_
    refine v_iload_n hC dX3_at_12 1 rfl ?_
    obtain ⟨g_5, h⟩ := gd h
    refine v_iald hC (obX_3_0 hG hO0).1 (obX_3_0 hG hO0).2 (t0 := 0) rfl g_5 dX3_at_13 ?_
    refine v_goto (tgt := 18) hC dX3_at_14 (by decide) ?_
    exact v_iret hC rfl dX3_at_18 h
theorem k_X3_at {adK adV : Nat → Nat} {tb : Nat} (l : Launch) {G : WD}  {r0 : Int32} {τ : HS} {i0 : Nat} {p1 : Int32} {σ : HS}  (hG : GX G xY) (hO0 : Ob G xY i0 3) (h : c_X3_at i0 p1 σ = some (r0, τ)) : MI (xE adK adV tb) l yX3_at wsX3_at rmX3_at G xY [.ref (G.2.2.1 i0), .int p1] σ r0 τ :=
  MI.of RX3 (by decide) rfl rfl (Nat.le_of_ble_eq_true rfl) rfl rfl (fun p e s m below meth c hC => w_X3_at  hG hO0 hC h)
abbrev rmX3_put : Room := { frames := 1, cells := 0, slots := 0, locals := 21 }
def c_X3_put (i0 : Nat) (p1 : Int32) (p2 : Int32) (σ : HS) : Option HS := (bi2 (c_X3_has i0 p1 σ) (fun r3 s2 => (if r3 = 0 then (some s2) else (if (gI s2 i0 1) = 0 then (if inb p1 40 = true then (lt (sI s2 (i0 + 1) (ix p1) (Int32.toInt8 p2).toInt32) (fun s14 => (some s14))) else none) else (if (gI s2 i0 1) = 1 then (if inb p1 40 = true then (lt (sI s2 (i0 + 1) (ix p1) (Int32.toInt16 p2).toInt32) (fun s11 => (some s11))) else none) else (if inb p1 40 = true then (lt (sI s2 (i0 + 1) (ix p1) p2) (fun s8 => (some s8))) else none))))))
set_option maxHeartbeats 4000000 in
set_option maxRecDepth 100000 in
theorem w_X3_put {adK adV : Nat → Nat} {tb : Nat} {p : Program} {l : Launch} {e : Env} {s : State} {m : MethodId} {args : Array Value} {below : List Frame} {meth : Method} {c : Code} {A : Nat → Prop} {G : WD}  {τ : HS} {i0 : Nat} {p1 : Int32} {p2 : Int32} {σ : HS}  (hG : GX G xY) (hO0 : Ob G xY i0 3) (hC : Cx (xE adK adV tb) G.1 G.2.1 xY cX3_put 3 none RX3 wsX3_put p s m args meth c A) (h : c_X3_put i0 p1 p2 σ = some τ) : V p l e rmX3_put s m args below meth c 3 A G xY 0 0 (MQ below (QV G xY A τ) args s 0 0 A) σ 0 [(0, .ref (G.2.2.1 i0)), (1, .int p1), (2, .int p2)] [] := by
  rw [c_X3_put] at h
  refine v_aload_n hC dX3_put_0 0 rfl ?_
  refine v_iload_n hC dX3_put_1 1 rfl ?_
  obtain ⟨r3, s2, hc_1, h⟩ := bd2 h
  refine v_callVI hC xE_ok (n := 1) (As := [.int p1]) (k_X3_has l hG (hO0) hc_1) (cwV 1 hC.1.2.2.2.2 gX3_put_X3_has rfl rfl rfl (by decide +kernel) ⟨(Nat.le_of_ble_eq_true rfl), (Nat.le_of_ble_eq_true rfl)⟩) hO0 (by decide) rfl rfl rfl (Nat.le_of_ble_eq_true rfl) ⟨Nat.zero_le _, Nat.zero_le _⟩ dX3_put_2 rfl ?_
  refine v_if_eq (tgt := 40) hC dX3_put_5 (by decide) (fun c_4 => ?_) (fun c_4 => ?_)
  · replace h := ift c_4 h
    exact v_vret hC rfl dX3_put_40 h
  · replace h := ifn c_4 h
    refine v_aload_n hC dX3_put_8 0 rfl ?_
    refine v_get (C := RX3) (T := TX3) (N := 3) (ci := 3) (k := 0) (v := .ref (G.2.2.1 (i0 + 1))) hC hO0 hi_X3_put_X3 rfl (by decide) (by decide) rfl rfl fl9_X3_put dX3_put_9 rfl ?_
    refine v_iload_n hC dX3_put_12 1 rfl ?_
    refine v_aload_n hC dX3_put_13 0 rfl ?_
    refine v_get (C := RX3) (T := TX3) (N := 3) (ci := 3) (k := 1) (v := .int (gI s2 i0 1)) hC hO0 hi_X3_put_X3 rfl (by decide) (by decide) rfl rfl fl15_X3_put dX3_put_14 rfl ?_
    refine v_if_ne (tgt := 25) hC dX3_put_17 (by decide) (fun c_5 => ?_) (fun c_5 => ?_)
    · replace h := ifn c_5 h
      refine v_aload_n hC dX3_put_25 0 rfl ?_
      refine v_get (C := RX3) (T := TX3) (N := 3) (ci := 3) (k := 1) (v := .int (gI s2 i0 1)) hC hO0 hi_X3_put_X3 rfl (by decide) (by decide) rfl rfl fl15_X3_put dX3_put_26 rfl ?_
      refine v_iconst (v := 1) hC dX3_put_29 (by decide) ?_
      refine v_icmp_ne (tgt := 38) hC dX3_put_30 (by decide) (fun c_6 => ?_) (fun c_6 => ?_)
      · replace h := ifn c_6 h
        refine v_iload_n hC dX3_put_38 2 rfl ?_
        obtain ⟨g_7, h⟩ := gd h
        refine v_iast hC (obX_3_0 hG hO0).1 (obX_3_0 hG hO0).2 (t0 := 0) rfl g_7 dX3_put_39 ?_
        obtain ⟨s8, e9, h⟩ := ld h
        refine V.eq e9 ?_
        exact v_vret hC rfl dX3_put_40 h
      · replace h := ift c_6 h
        refine v_iload_n hC dX3_put_33 2 rfl ?_
        refine v_i2s hC dX3_put_34 ?_
        refine v_goto (tgt := 39) hC dX3_put_35 (by decide) ?_
        obtain ⟨g_10, h⟩ := gd h
        refine v_iast hC (obX_3_0 hG hO0).1 (obX_3_0 hG hO0).2 (t0 := 0) rfl g_10 dX3_put_39 ?_
        obtain ⟨s11, e12, h⟩ := ld h
        refine V.eq e12 ?_
        exact v_vret hC rfl dX3_put_40 h
    · replace h := ift c_5 h
      refine v_iload_n hC dX3_put_20 2 rfl ?_
      refine v_i2b hC dX3_put_21 ?_
      refine v_goto (tgt := 39) hC dX3_put_22 (by decide) ?_
      obtain ⟨g_13, h⟩ := gd h
      refine v_iast hC (obX_3_0 hG hO0).1 (obX_3_0 hG hO0).2 (t0 := 0) rfl g_13 dX3_put_39 ?_
      obtain ⟨s14, e15, h⟩ := ld h
      refine V.eq e15 ?_
      exact v_vret hC rfl dX3_put_40 h
theorem k_X3_put {adK adV : Nat → Nat} {tb : Nat} (l : Launch) {G : WD}  {τ : HS} {i0 : Nat} {p1 : Int32} {p2 : Int32} {σ : HS}  (hG : GX G xY) (hO0 : Ob G xY i0 3) (h : c_X3_put i0 p1 p2 σ = some τ) : MV (xE adK adV tb) l yX3_put wsX3_put rmX3_put G xY [.ref (G.2.2.1 i0), .int p1, .int p2] σ τ :=
  MV.of RX3 (by decide) rfl rfl (Nat.le_of_ble_eq_true rfl) rfl rfl (fun p e s m below meth c hC => w_X3_put  hG hO0 hC h)
abbrev rmX3_become : Room := { frames := 1, cells := 0, slots := 0, locals := 30 }
def c_X3_become_21 : Nat → Nat → Int32 → HS → Option HS
  | 0, _, _, _ => none
  | n + 1, i0, x3, σ => (if 40 ≤ x3 then (some σ) else (if inb x3 40 = true then (lt (sI σ (i0 + 1) (ix x3) 0) (fun s7 => (c_X3_become_21 n i0 (x3 + 1) s7))) else none))
set_option maxHeartbeats 4000000 in
set_option maxRecDepth 100000 in
theorem w_X3_become_21 {adK adV : Nat → Nat} {tb : Nat} {p : Program} {l : Launch} {e : Env} {s : State} {m : MethodId} {args : Array Value} {below : List Frame} {meth : Method} {c : Code} {A : Nat → Prop} {G : WD}  {τ : HS} {i0 : Nat}  (hG : GX G xY) (hO0 : Ob G xY i0 3) (hC : Cx (xE adK adV tb) G.1 G.2.1 xY cX3_become 4 none RX3 wsX3_become p s m args meth c A)  : ∀ (n : Nat) (x3 : Int32) (σ : HS), c_X3_become_21 n i0 x3 σ = some τ → V p l e rmX3_become s m args below meth c 4 A G xY 0 0 (MQ below (QV G xY A τ) args s 0 0 A) σ 21 [(0, .ref (G.2.2.1 i0)), (3, .int x3)] [] := by
  intro n
  induction n with
  | zero => intro x3 σ h; exact nof h
  | succ n ih =>
    intro x3 σ h
    rw [c_X3_become_21] at h
    refine v_iload_n hC dX3_become_21 1 rfl ?_
    refine v_bipush (v := 40) hC dX3_become_22 (by decide) ?_
    refine v_icmp_ge (tgt := 40) hC dX3_become_24 (by decide) (fun c_5 => ?_) (fun c_5 => ?_)
    · replace h := ift c_5 h
      exact v_vret hC rfl dX3_become_40 h
    · replace h := ifn c_5 h
      refine v_aload_n hC dX3_become_27 0 rfl ?_
      refine v_get (C := RX3) (T := TX3) (N := 3) (ci := 3) (k := 0) (v := .ref (G.2.2.1 (i0 + 1))) hC hO0 hi_X3_become_X3 rfl (by decide) (by decide) rfl rfl fl9_X3_become dX3_become_28 rfl ?_
      refine v_iload_n hC dX3_become_31 1 rfl ?_
      refine v_iconst (v := 0) hC dX3_become_32 (by decide) ?_
      obtain ⟨g_6, h⟩ := gd h
      refine v_iast hC (obX_3_0 hG hO0).1 (obX_3_0 hG hO0).2 (t0 := 0) rfl g_6 dX3_become_33 ?_
      obtain ⟨s7, e8, h⟩ := ld h
      refine V.eq e8 ?_
      refine v_iinc (v := (x3 + 1)) (L' := [(0, .ref (G.2.2.1 i0)), (3, .int (x3 + 1))]) hC dX3_become_34 1 rfl rfl (by decide) [1, 0] rfl ?_
      refine v_goto (tgt := 21) hC dX3_become_37 (by decide) ?_
      exact ih _ _ h
def c_X3_become (i0 : Nat) (p1 : Int32) (p2 : Int32) (σ : HS) : Option HS := (lt (sI σ i0 1 p1) (fun s1 => (lt (sI s1 i0 2 (jxmax 0 (jxmin p2 40))) (fun s3 => (c_X3_become_21 FU i0 0 s3)))))
set_option maxHeartbeats 4000000 in
set_option maxRecDepth 100000 in
theorem w_X3_become {adK adV : Nat → Nat} {tb : Nat} {p : Program} {l : Launch} {e : Env} {s : State} {m : MethodId} {args : Array Value} {below : List Frame} {meth : Method} {c : Code} {A : Nat → Prop} {G : WD}  {τ : HS} {i0 : Nat} {p1 : Int32} {p2 : Int32} {σ : HS}  (hG : GX G xY) (hO0 : Ob G xY i0 3) (hC : Cx (xE adK adV tb) G.1 G.2.1 xY cX3_become 4 none RX3 wsX3_become p s m args meth c A) (h : c_X3_become i0 p1 p2 σ = some τ) : V p l e rmX3_become s m args below meth c 4 A G xY 0 0 (MQ below (QV G xY A τ) args s 0 0 A) σ 0 [(0, .ref (G.2.2.1 i0)), (1, .int p1), (2, .int p2)] [] := by
  rw [c_X3_become] at h
  refine v_aload_n hC dX3_become_0 0 rfl ?_
  refine v_iload_n hC dX3_become_1 1 rfl ?_
  refine v_putI (C := RX3) (T := TX3) (N := 3) (ci := 3) (k := 1) (ty := .int) hC hO0 hi_X3_become_X3 rfl (by decide) (by decide) rfl rfl tyX3_ok nmX3 fl15_X3_become rfl rfl rfl rfl rfl dX3_become_2 ?_
  obtain ⟨s1, e2, h⟩ := ld h
  refine V.eq e2 ?_
  refine v_aload_n hC dX3_become_5 0 rfl ?_
  refine v_iconst (v := 0) hC dX3_become_6 (by decide) ?_
  refine v_iload_n hC dX3_become_7 2 rfl ?_
  refine v_bipush (v := 40) hC dX3_become_8 (by decide) ?_
  refine v_min hC mx22_X3_become.1 mx22_X3_become.2.1 mx22_X3_become.2.2.1 mx22_X3_become.2.2.2 (Nat.le_of_ble_eq_true rfl) (Nat.le_of_ble_eq_true rfl) ⟨Nat.zero_le _, Nat.zero_le _⟩ dX3_become_10 ?_
  refine v_max hC mx28_X3_become.1 mx28_X3_become.2.1 mx28_X3_become.2.2.1 mx28_X3_become.2.2.2 (Nat.le_of_ble_eq_true rfl) (Nat.le_of_ble_eq_true rfl) ⟨Nat.zero_le _, Nat.zero_le _⟩ dX3_become_13 ?_
  refine v_putI (C := RX3) (T := TX3) (N := 3) (ci := 3) (k := 2) (ty := .int) hC hO0 hi_X3_become_X3 rfl (by decide) (by decide) rfl rfl tyX3_ok nmX3 fl19_X3_become rfl rfl rfl rfl rfl dX3_become_16 ?_
  obtain ⟨s3, e4, h⟩ := ld h
  refine V.eq e4 ?_
  refine v_iconst (v := 0) hC dX3_become_19 (by decide) ?_
  refine v_istore_n (L' := [(0, .ref (G.2.2.1 i0)), (3, .int 0)]) hC dX3_become_20 (by decide) [1, 0] rfl ?_
  exact w_X3_become_21 hG (hO0) hC FU _ _ h
theorem k_X3_become {adK adV : Nat → Nat} {tb : Nat} (l : Launch) {G : WD}  {τ : HS} {i0 : Nat} {p1 : Int32} {p2 : Int32} {σ : HS}  (hG : GX G xY) (hO0 : Ob G xY i0 3) (h : c_X3_become i0 p1 p2 σ = some τ) : MV (xE adK adV tb) l yX3_become wsX3_become rmX3_become G xY [.ref (G.2.2.1 i0), .int p1, .int p2] σ τ :=
  MV.of RX3 (by decide) rfl rfl (Nat.le_of_ble_eq_true rfl) rfl rfl (fun p e s m below meth c hC => w_X3_become  hG hO0 hC h)
abbrev rmX5_add : Room := { frames := 0, cells := 0, slots := 0, locals := 0 }
def c_X5_add (i0 : Nat) (p1 : Int32) (σ : HS) : Option HS := (if 160 ≤ (gI σ i0 1) then (some σ) else (if inb (gI σ i0 1) 160 = true then (lt (sI σ (i0 + 1) (ix (gI σ i0 1)) p1) (fun s3 => (lt (sI s3 i0 1 ((gI s3 i0 1) + 1)) (fun s5 => (some s5))))) else none))
set_option maxHeartbeats 4000000 in
set_option maxRecDepth 100000 in
theorem w_X5_add {adK adV : Nat → Nat} {tb : Nat} {p : Program} {l : Launch} {e : Env} {s : State} {m : MethodId} {args : Array Value} {below : List Frame} {meth : Method} {c : Code} {A : Nat → Prop} {G : WD}  {τ : HS} {i0 : Nat} {p1 : Int32} {σ : HS}  (hG : GX G xY) (hO0 : Ob G xY i0 5) (hC : Cx (xE adK adV tb) G.1 G.2.1 xY cX5_add 2 none RX5 wsX5_add p s m args meth c A) (h : c_X5_add i0 p1 σ = some τ) : V p l e rmX5_add s m args below meth c 2 A G xY 0 0 (MQ below (QV G xY A τ) args s 0 0 A) σ 0 [(0, .ref (G.2.2.1 i0)), (1, .int p1)] [] := by
  rw [c_X5_add] at h
  refine v_aload_n hC dX5_add_0 0 rfl ?_
  refine v_get (C := RX5) (T := TX5) (N := 2) (ci := 5) (k := 1) (v := .int (gI σ i0 1)) hC hO0 hi_X5_add_X5 rfl (by decide) (by decide) rfl rfl fl15_X5_add dX5_add_1 rfl ?_
  refine v_sipush (v := 160) hC dX5_add_4 (by decide) ?_
  refine v_icmp_ge (tgt := 30) hC dX5_add_7 (by decide) (fun c_1 => ?_) (fun c_1 => ?_)
  · replace h := ift c_1 h
    exact v_vret hC rfl dX5_add_30 h
  · replace h := ifn c_1 h
    refine v_aload_n hC dX5_add_10 0 rfl ?_
    refine v_get (C := RX5) (T := TX5) (N := 2) (ci := 5) (k := 0) (v := .ref (G.2.2.1 (i0 + 1))) hC hO0 hi_X5_add_X5 rfl (by decide) (by decide) rfl rfl fl9_X5_add dX5_add_11 rfl ?_
    refine v_aload_n hC dX5_add_14 0 rfl ?_
    refine v_get (C := RX5) (T := TX5) (N := 2) (ci := 5) (k := 1) (v := .int (gI σ i0 1)) hC hO0 hi_X5_add_X5 rfl (by decide) (by decide) rfl rfl fl15_X5_add dX5_add_15 rfl ?_
    refine v_iload_n hC dX5_add_18 1 rfl ?_
    obtain ⟨g_2, h⟩ := gd h
    refine v_iast hC (obX_5_0 hG hO0).1 (obX_5_0 hG hO0).2 (t0 := 0) rfl g_2 dX5_add_19 ?_
    obtain ⟨s3, e4, h⟩ := ld h
    refine V.eq e4 ?_
    refine v_aload_n hC dX5_add_20 0 rfl ?_
    refine v_dup hC dX5_add_21 rfl ?_
    refine v_get (C := RX5) (T := TX5) (N := 2) (ci := 5) (k := 1) (v := .int (gI s3 i0 1)) hC hO0 hi_X5_add_X5 rfl (by decide) (by decide) rfl rfl fl15_X5_add dX5_add_22 rfl ?_
    refine v_iconst (v := 1) hC dX5_add_25 (by decide) ?_
    refine v_iadd hC dX5_add_26 ?_
    refine v_putI (C := RX5) (T := TX5) (N := 2) (ci := 5) (k := 1) (ty := .int) hC hO0 hi_X5_add_X5 rfl (by decide) (by decide) rfl rfl tyX5_ok nmX5 fl15_X5_add rfl rfl rfl rfl rfl dX5_add_27 ?_
    obtain ⟨s5, e6, h⟩ := ld h
    refine V.eq e6 ?_
    exact v_vret hC rfl dX5_add_30 h
theorem k_X5_add {adK adV : Nat → Nat} {tb : Nat} (l : Launch) {G : WD}  {τ : HS} {i0 : Nat} {p1 : Int32} {σ : HS}  (hG : GX G xY) (hO0 : Ob G xY i0 5) (h : c_X5_add i0 p1 σ = some τ) : MV (xE adK adV tb) l yX5_add wsX5_add rmX5_add G xY [.ref (G.2.2.1 i0), .int p1] σ τ :=
  MV.of RX5 (by decide) rfl rfl (Nat.le_of_ble_eq_true rfl) rfl rfl (fun p e s m below meth c hC => w_X5_add  hG hO0 hC h)
abbrev rmX5_clear : Room := { frames := 0, cells := 0, slots := 0, locals := 0 }
def c_X5_clear (i0 : Nat) (σ : HS) : Option HS := (lt (sI σ i0 1 0) (fun s1 => (some s1)))
set_option maxHeartbeats 4000000 in
set_option maxRecDepth 100000 in
theorem w_X5_clear {adK adV : Nat → Nat} {tb : Nat} {p : Program} {l : Launch} {e : Env} {s : State} {m : MethodId} {args : Array Value} {below : List Frame} {meth : Method} {c : Code} {A : Nat → Prop} {G : WD}  {τ : HS} {i0 : Nat} {σ : HS}  (hG : GX G xY) (hO0 : Ob G xY i0 5) (hC : Cx (xE adK adV tb) G.1 G.2.1 xY cX5_clear 1 none RX5 wsX5_clear p s m args meth c A) (h : c_X5_clear i0 σ = some τ) : V p l e rmX5_clear s m args below meth c 1 A G xY 0 0 (MQ below (QV G xY A τ) args s 0 0 A) σ 0 [(0, .ref (G.2.2.1 i0))] [] := by
  rw [c_X5_clear] at h
  refine v_aload_n hC dX5_clear_0 0 rfl ?_
  refine v_iconst (v := 0) hC dX5_clear_1 (by decide) ?_
  refine v_putI (C := RX5) (T := TX5) (N := 2) (ci := 5) (k := 1) (ty := .int) hC hO0 hi_X5_clear_X5 rfl (by decide) (by decide) rfl rfl tyX5_ok nmX5 fl15_X5_clear rfl rfl rfl rfl rfl dX5_clear_2 ?_
  obtain ⟨s1, e2, h⟩ := ld h
  refine V.eq e2 ?_
  exact v_vret hC rfl dX5_clear_5 h
theorem k_X5_clear {adK adV : Nat → Nat} {tb : Nat} (l : Launch) {G : WD}  {τ : HS} {i0 : Nat} {σ : HS}  (hG : GX G xY) (hO0 : Ob G xY i0 5) (h : c_X5_clear i0 σ = some τ) : MV (xE adK adV tb) l yX5_clear wsX5_clear rmX5_clear G xY [.ref (G.2.2.1 i0)] σ τ :=
  MV.of RX5 (by decide) rfl rfl (Nat.le_of_ble_eq_true rfl) rfl rfl (fun p e s m below meth c hC => w_X5_clear  hG hO0 hC h)
abbrev rmX5_at : Room := { frames := 0, cells := 0, slots := 0, locals := 0 }
def c_X5_at (i0 : Nat) (p1 : Int32) (σ : HS) : Option (Int32 × HS) := (if p1 < 0 then (some ((-1), σ)) else (if (gI σ i0 1) ≤ p1 then (some ((-1), σ)) else (if inb p1 160 = true then (some ((gI σ (i0 + 1) (ix p1)), σ)) else none)))
set_option maxHeartbeats 4000000 in
set_option maxRecDepth 100000 in
theorem w_X5_at {adK adV : Nat → Nat} {tb : Nat} {p : Program} {l : Launch} {e : Env} {s : State} {m : MethodId} {args : Array Value} {below : List Frame} {meth : Method} {c : Code} {A : Nat → Prop} {G : WD}  {r0 : Int32} {τ : HS} {i0 : Nat} {p1 : Int32} {σ : HS}  (hG : GX G xY) (hO0 : Ob G xY i0 5) (hC : Cx (xE adK adV tb) G.1 G.2.1 xY cX5_at 2 (some .int) RX5 wsX5_at p s m args meth c A) (h : c_X5_at i0 p1 σ = some (r0, τ)) : V p l e rmX5_at s m args below meth c 2 A G xY 0 0 (MQ below (QI G xY A r0 τ) args s 0 0 A) σ 0 [(0, .ref (G.2.2.1 i0)), (1, .int p1)] [] := by
  rw [c_X5_at] at h
  refine v_iload_n hC dX5_at_0 1 rfl ?_
  refine v_if_lt (tgt := 21) hC dX5_at_1 (by decide) (fun c_1 => ?_) (fun c_1 => ?_)
  · replace h := ift c_1 h
    refine v_iconst (v := (-1)) hC dX5_at_21 (by decide) ?_
    exact v_iret hC rfl dX5_at_22 h
  · replace h := ifn c_1 h
    refine v_iload_n hC dX5_at_4 1 rfl ?_
    refine v_aload_n hC dX5_at_5 0 rfl ?_
    refine v_get (C := RX5) (T := TX5) (N := 2) (ci := 5) (k := 1) (v := .int (gI σ i0 1)) hC hO0 hi_X5_at_X5 rfl (by decide) (by decide) rfl rfl fl15_X5_at dX5_at_6 rfl ?_
    refine v_icmp_ge (tgt := 21) hC dX5_at_9 (by decide) (fun c_2 => ?_) (fun c_2 => ?_)
    · replace h := ift c_2 h
      refine v_iconst (v := (-1)) hC dX5_at_21 (by decide) ?_
      exact v_iret hC rfl dX5_at_22 h
    · replace h := ifn c_2 h
      refine v_aload_n hC dX5_at_12 0 rfl ?_
      refine v_get (C := RX5) (T := TX5) (N := 2) (ci := 5) (k := 0) (v := .ref (G.2.2.1 (i0 + 1))) hC hO0 hi_X5_at_X5 rfl (by decide) (by decide) rfl rfl fl9_X5_at dX5_at_13 rfl ?_
      refine v_iload_n hC dX5_at_16 1 rfl ?_
      obtain ⟨g_3, h⟩ := gd h
      refine v_iald hC (obX_5_0 hG hO0).1 (obX_5_0 hG hO0).2 (t0 := 0) rfl g_3 dX5_at_17 ?_
      refine v_goto (tgt := 22) hC dX5_at_18 (by decide) ?_
      exact v_iret hC rfl dX5_at_22 h
theorem k_X5_at {adK adV : Nat → Nat} {tb : Nat} (l : Launch) {G : WD}  {r0 : Int32} {τ : HS} {i0 : Nat} {p1 : Int32} {σ : HS}  (hG : GX G xY) (hO0 : Ob G xY i0 5) (h : c_X5_at i0 p1 σ = some (r0, τ)) : MI (xE adK adV tb) l yX5_at wsX5_at rmX5_at G xY [.ref (G.2.2.1 i0), .int p1] σ r0 τ :=
  MI.of RX5 (by decide) rfl rfl (Nat.le_of_ble_eq_true rfl) rfl rfl (fun p e s m below meth c hC => w_X5_at  hG hO0 hC h)
abbrev rmX6_clear : Room := { frames := 0, cells := 0, slots := 0, locals := 0 }
def c_X6_clear (i0 : Nat) (σ : HS) : Option HS := (lt (sI σ i0 1 0) (fun s1 => (some s1)))
set_option maxHeartbeats 4000000 in
set_option maxRecDepth 100000 in
theorem w_X6_clear {adK adV : Nat → Nat} {tb : Nat} {p : Program} {l : Launch} {e : Env} {s : State} {m : MethodId} {args : Array Value} {below : List Frame} {meth : Method} {c : Code} {A : Nat → Prop} {G : WD}  {τ : HS} {i0 : Nat} {σ : HS}  (hG : GX G xY) (hO0 : Ob G xY i0 6) (hC : Cx (xE adK adV tb) G.1 G.2.1 xY cX6_clear 1 none RX6 wsX6_clear p s m args meth c A) (h : c_X6_clear i0 σ = some τ) : V p l e rmX6_clear s m args below meth c 1 A G xY 0 0 (MQ below (QV G xY A τ) args s 0 0 A) σ 0 [(0, .ref (G.2.2.1 i0))] [] := by
  rw [c_X6_clear] at h
  refine v_aload_n hC dX6_clear_0 0 rfl ?_
  refine v_iconst (v := 0) hC dX6_clear_1 (by decide) ?_
  refine v_putI (C := RX6) (T := TX6) (N := 5) (ci := 6) (k := 1) (ty := .int) hC hO0 hi_X6_clear_X6 rfl (by decide) (by decide) rfl rfl tyX6_ok nmX6 fl15_X6_clear rfl rfl rfl rfl rfl dX6_clear_2 ?_
  obtain ⟨s1, e2, h⟩ := ld h
  refine V.eq e2 ?_
  exact v_vret hC rfl dX6_clear_5 h
theorem k_X6_clear {adK adV : Nat → Nat} {tb : Nat} (l : Launch) {G : WD}  {τ : HS} {i0 : Nat} {σ : HS}  (hG : GX G xY) (hO0 : Ob G xY i0 6) (h : c_X6_clear i0 σ = some τ) : MV (xE adK adV tb) l yX6_clear wsX6_clear rmX6_clear G xY [.ref (G.2.2.1 i0)] σ τ :=
  MV.of RX6 (by decide) rfl rfl (Nat.le_of_ble_eq_true rfl) rfl rfl (fun p e s m below meth c hC => w_X6_clear  hG hO0 hC h)
abbrev rmX6_add : Room := { frames := 0, cells := 0, slots := 0, locals := 0 }
def c_X6_add (i0 : Nat) (p1 : Int32) (σ : HS) : Option HS := (if 160 ≤ (gI σ i0 1) then (some σ) else (if inb (gI σ i0 1) 160 = true then (lt (sI σ (i0 + 1) (ix (gI σ i0 1)) p1) (fun s3 => (lt (sI s3 i0 1 ((gI s3 i0 1) + 1)) (fun s5 => (some s5))))) else none))
set_option maxHeartbeats 4000000 in
set_option maxRecDepth 100000 in
theorem w_X6_add {adK adV : Nat → Nat} {tb : Nat} {p : Program} {l : Launch} {e : Env} {s : State} {m : MethodId} {args : Array Value} {below : List Frame} {meth : Method} {c : Code} {A : Nat → Prop} {G : WD}  {τ : HS} {i0 : Nat} {p1 : Int32} {σ : HS}  (hG : GX G xY) (hO0 : Ob G xY i0 6) (hC : Cx (xE adK adV tb) G.1 G.2.1 xY cX6_add 2 none RX6 wsX6_add p s m args meth c A) (h : c_X6_add i0 p1 σ = some τ) : V p l e rmX6_add s m args below meth c 2 A G xY 0 0 (MQ below (QV G xY A τ) args s 0 0 A) σ 0 [(0, .ref (G.2.2.1 i0)), (1, .int p1)] [] := by
  rw [c_X6_add] at h
  refine v_aload_n hC dX6_add_0 0 rfl ?_
  refine v_get (C := RX6) (T := TX6) (N := 5) (ci := 6) (k := 1) (v := .int (gI σ i0 1)) hC hO0 hi_X6_add_X6 rfl (by decide) (by decide) rfl rfl fl15_X6_add dX6_add_1 rfl ?_
  refine v_sipush (v := 160) hC dX6_add_4 (by decide) ?_
  refine v_icmp_ge (tgt := 30) hC dX6_add_7 (by decide) (fun c_1 => ?_) (fun c_1 => ?_)
  · replace h := ift c_1 h
    exact v_vret hC rfl dX6_add_30 h
  · replace h := ifn c_1 h
    refine v_aload_n hC dX6_add_10 0 rfl ?_
    refine v_get (C := RX6) (T := TX6) (N := 5) (ci := 6) (k := 0) (v := .ref (G.2.2.1 (i0 + 1))) hC hO0 hi_X6_add_X6 rfl (by decide) (by decide) rfl rfl fl9_X6_add dX6_add_11 rfl ?_
    refine v_aload_n hC dX6_add_14 0 rfl ?_
    refine v_get (C := RX6) (T := TX6) (N := 5) (ci := 6) (k := 1) (v := .int (gI σ i0 1)) hC hO0 hi_X6_add_X6 rfl (by decide) (by decide) rfl rfl fl15_X6_add dX6_add_15 rfl ?_
    refine v_iload_n hC dX6_add_18 1 rfl ?_
    obtain ⟨g_2, h⟩ := gd h
    refine v_iast hC (obX_6_0 hG hO0).1 (obX_6_0 hG hO0).2 (t0 := 0) rfl g_2 dX6_add_19 ?_
    obtain ⟨s3, e4, h⟩ := ld h
    refine V.eq e4 ?_
    refine v_aload_n hC dX6_add_20 0 rfl ?_
    refine v_dup hC dX6_add_21 rfl ?_
    refine v_get (C := RX6) (T := TX6) (N := 5) (ci := 6) (k := 1) (v := .int (gI s3 i0 1)) hC hO0 hi_X6_add_X6 rfl (by decide) (by decide) rfl rfl fl15_X6_add dX6_add_22 rfl ?_
    refine v_iconst (v := 1) hC dX6_add_25 (by decide) ?_
    refine v_iadd hC dX6_add_26 ?_
    refine v_putI (C := RX6) (T := TX6) (N := 5) (ci := 6) (k := 1) (ty := .int) hC hO0 hi_X6_add_X6 rfl (by decide) (by decide) rfl rfl tyX6_ok nmX6 fl15_X6_add rfl rfl rfl rfl rfl dX6_add_27 ?_
    obtain ⟨s5, e6, h⟩ := ld h
    refine V.eq e6 ?_
    exact v_vret hC rfl dX6_add_30 h
theorem k_X6_add {adK adV : Nat → Nat} {tb : Nat} (l : Launch) {G : WD}  {τ : HS} {i0 : Nat} {p1 : Int32} {σ : HS}  (hG : GX G xY) (hO0 : Ob G xY i0 6) (h : c_X6_add i0 p1 σ = some τ) : MV (xE adK adV tb) l yX6_add wsX6_add rmX6_add G xY [.ref (G.2.2.1 i0), .int p1] σ τ :=
  MV.of RX6 (by decide) rfl rfl (Nat.le_of_ble_eq_true rfl) rfl rfl (fun p e s m below meth c hC => w_X6_add  hG hO0 hC h)
abbrev rmX6_endPart : Room := { frames := 0, cells := 0, slots := 0, locals := 0 }
def c_X6_endPart (i0 : Nat) (p1 : Int32) (σ : HS) : Option HS := (if p1 < 0 then (some σ) else (if 3 ≤ p1 then (some σ) else (if inb p1 3 = true then (lt (sI σ (i0 + 2) (ix p1) (gI σ i0 1)) (fun s4 => (some s4))) else none)))
set_option maxHeartbeats 4000000 in
set_option maxRecDepth 100000 in
theorem w_X6_endPart {adK adV : Nat → Nat} {tb : Nat} {p : Program} {l : Launch} {e : Env} {s : State} {m : MethodId} {args : Array Value} {below : List Frame} {meth : Method} {c : Code} {A : Nat → Prop} {G : WD}  {τ : HS} {i0 : Nat} {p1 : Int32} {σ : HS}  (hG : GX G xY) (hO0 : Ob G xY i0 6) (hC : Cx (xE adK adV tb) G.1 G.2.1 xY cX6_endPart 2 none RX6 wsX6_endPart p s m args meth c A) (h : c_X6_endPart i0 p1 σ = some τ) : V p l e rmX6_endPart s m args below meth c 2 A G xY 0 0 (MQ below (QV G xY A τ) args s 0 0 A) σ 0 [(0, .ref (G.2.2.1 i0)), (1, .int p1)] [] := by
  rw [c_X6_endPart] at h
  refine v_iload_n hC dX6_endPart_0 1 rfl ?_
  refine v_if_lt (tgt := 19) hC dX6_endPart_1 (by decide) (fun c_1 => ?_) (fun c_1 => ?_)
  · replace h := ift c_1 h
    exact v_vret hC rfl dX6_endPart_19 h
  · replace h := ifn c_1 h
    refine v_iload_n hC dX6_endPart_4 1 rfl ?_
    refine v_iconst (v := 3) hC dX6_endPart_5 (by decide) ?_
    refine v_icmp_ge (tgt := 19) hC dX6_endPart_6 (by decide) (fun c_2 => ?_) (fun c_2 => ?_)
    · replace h := ift c_2 h
      exact v_vret hC rfl dX6_endPart_19 h
    · replace h := ifn c_2 h
      refine v_aload_n hC dX6_endPart_9 0 rfl ?_
      refine v_get (C := RX6) (T := TX6) (N := 5) (ci := 6) (k := 2) (v := .ref (G.2.2.1 (i0 + 2))) hC hO0 hi_X6_endPart_X6 rfl (by decide) (by decide) rfl rfl fl19_X6_endPart dX6_endPart_10 rfl ?_
      refine v_iload_n hC dX6_endPart_13 1 rfl ?_
      refine v_aload_n hC dX6_endPart_14 0 rfl ?_
      refine v_get (C := RX6) (T := TX6) (N := 5) (ci := 6) (k := 1) (v := .int (gI σ i0 1)) hC hO0 hi_X6_endPart_X6 rfl (by decide) (by decide) rfl rfl fl15_X6_endPart dX6_endPart_15 rfl ?_
      obtain ⟨g_3, h⟩ := gd h
      refine v_iast hC (obX_6_2 hG hO0).1 (obX_6_2 hG hO0).2 (t0 := 0) rfl g_3 dX6_endPart_18 ?_
      obtain ⟨s4, e5, h⟩ := ld h
      refine V.eq e5 ?_
      exact v_vret hC rfl dX6_endPart_19 h
theorem k_X6_endPart {adK adV : Nat → Nat} {tb : Nat} (l : Launch) {G : WD}  {τ : HS} {i0 : Nat} {p1 : Int32} {σ : HS}  (hG : GX G xY) (hO0 : Ob G xY i0 6) (h : c_X6_endPart i0 p1 σ = some τ) : MV (xE adK adV tb) l yX6_endPart wsX6_endPart rmX6_endPart G xY [.ref (G.2.2.1 i0), .int p1] σ τ :=
  MV.of RX6 (by decide) rfl rfl (Nat.le_of_ble_eq_true rfl) rfl rfl (fun p e s m below meth c hC => w_X6_endPart  hG hO0 hC h)
abbrev rmX6_push : Room := { frames := 0, cells := 0, slots := 0, locals := 0 }
def c_X6_push (i0 : Nat) (p1 : Int32) (σ : HS) : Option HS := (if 40 ≤ (gI σ i0 4) then (some σ) else (if inb (gI σ i0 4) 40 = true then (lt (sI σ (i0 + 3) (ix (gI σ i0 4)) p1) (fun s3 => (lt (sI s3 i0 4 ((gI s3 i0 4) + 1)) (fun s5 => (some s5))))) else none))
set_option maxHeartbeats 4000000 in
set_option maxRecDepth 100000 in
theorem w_X6_push {adK adV : Nat → Nat} {tb : Nat} {p : Program} {l : Launch} {e : Env} {s : State} {m : MethodId} {args : Array Value} {below : List Frame} {meth : Method} {c : Code} {A : Nat → Prop} {G : WD}  {τ : HS} {i0 : Nat} {p1 : Int32} {σ : HS}  (hG : GX G xY) (hO0 : Ob G xY i0 6) (hC : Cx (xE adK adV tb) G.1 G.2.1 xY cX6_push 2 none RX6 wsX6_push p s m args meth c A) (h : c_X6_push i0 p1 σ = some τ) : V p l e rmX6_push s m args below meth c 2 A G xY 0 0 (MQ below (QV G xY A τ) args s 0 0 A) σ 0 [(0, .ref (G.2.2.1 i0)), (1, .int p1)] [] := by
  rw [c_X6_push] at h
  refine v_aload_n hC dX6_push_0 0 rfl ?_
  refine v_get (C := RX6) (T := TX6) (N := 5) (ci := 6) (k := 4) (v := .int (gI σ i0 4)) hC hO0 hi_X6_push_X6 rfl (by decide) (by decide) rfl rfl fl25_X6_push dX6_push_1 rfl ?_
  refine v_bipush (v := 40) hC dX6_push_4 (by decide) ?_
  refine v_icmp_ge (tgt := 29) hC dX6_push_6 (by decide) (fun c_1 => ?_) (fun c_1 => ?_)
  · replace h := ift c_1 h
    exact v_vret hC rfl dX6_push_29 h
  · replace h := ifn c_1 h
    refine v_aload_n hC dX6_push_9 0 rfl ?_
    refine v_get (C := RX6) (T := TX6) (N := 5) (ci := 6) (k := 3) (v := .ref (G.2.2.1 (i0 + 3))) hC hO0 hi_X6_push_X6 rfl (by decide) (by decide) rfl rfl fl22_X6_push dX6_push_10 rfl ?_
    refine v_aload_n hC dX6_push_13 0 rfl ?_
    refine v_get (C := RX6) (T := TX6) (N := 5) (ci := 6) (k := 4) (v := .int (gI σ i0 4)) hC hO0 hi_X6_push_X6 rfl (by decide) (by decide) rfl rfl fl25_X6_push dX6_push_14 rfl ?_
    refine v_iload_n hC dX6_push_17 1 rfl ?_
    obtain ⟨g_2, h⟩ := gd h
    refine v_iast hC (obX_6_3 hG hO0).1 (obX_6_3 hG hO0).2 (t0 := 0) rfl g_2 dX6_push_18 ?_
    obtain ⟨s3, e4, h⟩ := ld h
    refine V.eq e4 ?_
    refine v_aload_n hC dX6_push_19 0 rfl ?_
    refine v_dup hC dX6_push_20 rfl ?_
    refine v_get (C := RX6) (T := TX6) (N := 5) (ci := 6) (k := 4) (v := .int (gI s3 i0 4)) hC hO0 hi_X6_push_X6 rfl (by decide) (by decide) rfl rfl fl25_X6_push dX6_push_21 rfl ?_
    refine v_iconst (v := 1) hC dX6_push_24 (by decide) ?_
    refine v_iadd hC dX6_push_25 ?_
    refine v_putI (C := RX6) (T := TX6) (N := 5) (ci := 6) (k := 4) (ty := .int) hC hO0 hi_X6_push_X6 rfl (by decide) (by decide) rfl rfl tyX6_ok nmX6 fl25_X6_push rfl rfl rfl rfl rfl dX6_push_26 ?_
    obtain ⟨s5, e6, h⟩ := ld h
    refine V.eq e6 ?_
    exact v_vret hC rfl dX6_push_29 h
theorem k_X6_push {adK adV : Nat → Nat} {tb : Nat} (l : Launch) {G : WD}  {τ : HS} {i0 : Nat} {p1 : Int32} {σ : HS}  (hG : GX G xY) (hO0 : Ob G xY i0 6) (h : c_X6_push i0 p1 σ = some τ) : MV (xE adK adV tb) l yX6_push wsX6_push rmX6_push G xY [.ref (G.2.2.1 i0), .int p1] σ τ :=
  MV.of RX6 (by decide) rfl rfl (Nat.le_of_ble_eq_true rfl) rfl rfl (fun p e s m below meth c hC => w_X6_push  hG hO0 hC h)
abbrev rmX6_pull : Room := { frames := 0, cells := 0, slots := 0, locals := 0 }
def c_X6_pull (i0 : Nat) (σ : HS) : Option (Int32 × HS) := (if 1 ≤ (gI σ i0 4) then (lt (sI σ i0 4 ((gI σ i0 4) - 1)) (fun s2 => (if inb (gI s2 i0 4) 40 = true then (some ((gI s2 (i0 + 3) (ix (gI s2 i0 4))), s2)) else none))) else (some (0, σ)))
set_option maxHeartbeats 4000000 in
set_option maxRecDepth 100000 in
theorem w_X6_pull {adK adV : Nat → Nat} {tb : Nat} {p : Program} {l : Launch} {e : Env} {s : State} {m : MethodId} {args : Array Value} {below : List Frame} {meth : Method} {c : Code} {A : Nat → Prop} {G : WD}  {r0 : Int32} {τ : HS} {i0 : Nat} {σ : HS}  (hG : GX G xY) (hO0 : Ob G xY i0 6) (hC : Cx (xE adK adV tb) G.1 G.2.1 xY cX6_pull 1 (some .int) RX6 wsX6_pull p s m args meth c A) (h : c_X6_pull i0 σ = some (r0, τ)) : V p l e rmX6_pull s m args below meth c 1 A G xY 0 0 (MQ below (QI G xY A r0 τ) args s 0 0 A) σ 0 [(0, .ref (G.2.2.1 i0))] [] := by
  rw [c_X6_pull] at h
  refine v_aload_n hC dX6_pull_0 0 rfl ?_
  refine v_get (C := RX6) (T := TX6) (N := 5) (ci := 6) (k := 4) (v := .int (gI σ i0 4)) hC hO0 hi_X6_pull_X6 rfl (by decide) (by decide) rfl rfl fl25_X6_pull dX6_pull_1 rfl ?_
  refine v_iconst (v := 1) hC dX6_pull_4 (by decide) ?_
  refine v_icmp_ge (tgt := 10) hC dX6_pull_5 (by decide) (fun c_1 => ?_) (fun c_1 => ?_)
  · replace h := ift c_1 h
    refine v_aload_n hC dX6_pull_10 0 rfl ?_
    refine v_dup hC dX6_pull_11 rfl ?_
    refine v_get (C := RX6) (T := TX6) (N := 5) (ci := 6) (k := 4) (v := .int (gI σ i0 4)) hC hO0 hi_X6_pull_X6 rfl (by decide) (by decide) rfl rfl fl25_X6_pull dX6_pull_12 rfl ?_
    refine v_iconst (v := 1) hC dX6_pull_15 (by decide) ?_
    refine v_isub hC dX6_pull_16 ?_
    refine v_putI (C := RX6) (T := TX6) (N := 5) (ci := 6) (k := 4) (ty := .int) hC hO0 hi_X6_pull_X6 rfl (by decide) (by decide) rfl rfl tyX6_ok nmX6 fl25_X6_pull rfl rfl rfl rfl rfl dX6_pull_17 ?_
    obtain ⟨s2, e3, h⟩ := ld h
    refine V.eq e3 ?_
    refine v_aload_n hC dX6_pull_20 0 rfl ?_
    refine v_get (C := RX6) (T := TX6) (N := 5) (ci := 6) (k := 3) (v := .ref (G.2.2.1 (i0 + 3))) hC hO0 hi_X6_pull_X6 rfl (by decide) (by decide) rfl rfl fl22_X6_pull dX6_pull_21 rfl ?_
    refine v_aload_n hC dX6_pull_24 0 rfl ?_
    refine v_get (C := RX6) (T := TX6) (N := 5) (ci := 6) (k := 4) (v := .int (gI s2 i0 4)) hC hO0 hi_X6_pull_X6 rfl (by decide) (by decide) rfl rfl fl25_X6_pull dX6_pull_25 rfl ?_
    obtain ⟨g_4, h⟩ := gd h
    refine v_iald hC (obX_6_3 hG hO0).1 (obX_6_3 hG hO0).2 (t0 := 0) rfl g_4 dX6_pull_28 ?_
    exact v_iret hC rfl dX6_pull_29 h
  · replace h := ifn c_1 h
    refine v_iconst (v := 0) hC dX6_pull_8 (by decide) ?_
    exact v_iret hC rfl dX6_pull_9 h
theorem k_X6_pull {adK adV : Nat → Nat} {tb : Nat} (l : Launch) {G : WD}  {r0 : Int32} {τ : HS} {i0 : Nat} {σ : HS}  (hG : GX G xY) (hO0 : Ob G xY i0 6) (h : c_X6_pull i0 σ = some (r0, τ)) : MI (xE adK adV tb) l yX6_pull wsX6_pull rmX6_pull G xY [.ref (G.2.2.1 i0)] σ r0 τ :=
  MI.of RX6 (by decide) rfl rfl (Nat.le_of_ble_eq_true rfl) rfl rfl (fun p e s m below meth c hC => w_X6_pull  hG hO0 hC h)
abbrev rmX6_join : Room := { frames := 0, cells := 0, slots := 0, locals := 0 }
def c_X6_join (p0 : Int32) (p1 : Int32) (p2 : Int32) (σ : HS) : Option (Int32 × HS) := (if p0 = 10009 then (if p1 = 0 then (if p2 = 0 then (some (0, σ)) else (some (1, σ))) else (some (1, σ))) else (if p0 = 10010 then (if p1 = 0 then (some (0, σ)) else (if p2 = 0 then (some (0, σ)) else (some (1, σ)))) else (if p0 = 10015 then (some ((p1 + p2), σ)) else (if p0 = 10016 then (some ((p1 - p2), σ)) else (if p0 = 10017 then (some ((p1 * p2), σ)) else (if p0 = 10018 then (if p2 ≤ p1 then (some (0, σ)) else (some (1, σ))) else (if p0 = 10019 then (if p1 = p2 then (some (1, σ)) else (some (0, σ))) else (some (0, σ)))))))))
set_option maxHeartbeats 4000000 in
set_option maxRecDepth 100000 in
theorem w_X6_join {adK adV : Nat → Nat} {tb : Nat} {p : Program} {l : Launch} {e : Env} {s : State} {m : MethodId} {args : Array Value} {below : List Frame} {meth : Method} {c : Code} {A : Nat → Prop} {G : WD}  {r0 : Int32} {τ : HS} {p0 : Int32} {p1 : Int32} {p2 : Int32} {σ : HS}  (hG : GX G xY)  (hC : Cx (xE adK adV tb) G.1 G.2.1 xY cX6_join 3 (some .int) RX6 wsX6_join p s m args meth c A) (h : c_X6_join p0 p1 p2 σ = some (r0, τ)) : V p l e rmX6_join s m args below meth c 3 A G xY 0 0 (MQ below (QI G xY A r0 τ) args s 0 0 A) σ 0 [(0, .int p0), (1, .int p1), (2, .int p2)] [] := by
  rw [c_X6_join] at h
  refine v_iload_n hC dX6_join_0 0 rfl ?_
  by_cases c_1 : p0 = 10009
  · replace h := ift c_1 h
    refine v_tabIn (v := 10009) (tgt := 60) c_1 hC dX6_join_1 (by decide) (by decide) rfl (by decide) ?_
    refine v_iload_n hC dX6_join_60 1 rfl ?_
    refine v_if_ne (tgt := 68) hC dX6_join_61 (by decide) (fun c_2 => ?_) (fun c_2 => ?_)
    · replace h := ifn c_2 h
      refine v_iconst (v := 1) hC dX6_join_68 (by decide) ?_
      refine v_goto (tgt := 73) hC dX6_join_69 (by decide) ?_
      exact v_iret hC rfl dX6_join_73 h
    · replace h := ift c_2 h
      refine v_iload_n hC dX6_join_64 2 rfl ?_
      refine v_if_eq (tgt := 72) hC dX6_join_65 (by decide) (fun c_3 => ?_) (fun c_3 => ?_)
      · replace h := ift c_3 h
        refine v_iconst (v := 0) hC dX6_join_72 (by decide) ?_
        exact v_iret hC rfl dX6_join_73 h
      · replace h := ifn c_3 h
        refine v_iconst (v := 1) hC dX6_join_68 (by decide) ?_
        refine v_goto (tgt := 73) hC dX6_join_69 (by decide) ?_
        exact v_iret hC rfl dX6_join_73 h
  · replace h := ifn c_1 h
    by_cases c_4 : p0 = 10010
    · replace h := ift c_4 h
      refine v_tabIn (v := 10010) (tgt := 74) c_4 hC dX6_join_1 (by decide) (by decide) rfl (by decide) ?_
      refine v_iload_n hC dX6_join_74 1 rfl ?_
      refine v_if_eq (tgt := 86) hC dX6_join_75 (by decide) (fun c_5 => ?_) (fun c_5 => ?_)
      · replace h := ift c_5 h
        refine v_iconst (v := 0) hC dX6_join_86 (by decide) ?_
        exact v_iret hC rfl dX6_join_87 h
      · replace h := ifn c_5 h
        refine v_iload_n hC dX6_join_78 2 rfl ?_
        refine v_if_eq (tgt := 86) hC dX6_join_79 (by decide) (fun c_6 => ?_) (fun c_6 => ?_)
        · replace h := ift c_6 h
          refine v_iconst (v := 0) hC dX6_join_86 (by decide) ?_
          exact v_iret hC rfl dX6_join_87 h
        · replace h := ifn c_6 h
          refine v_iconst (v := 1) hC dX6_join_82 (by decide) ?_
          refine v_goto (tgt := 87) hC dX6_join_83 (by decide) ?_
          exact v_iret hC rfl dX6_join_87 h
    · replace h := ifn c_4 h
      by_cases c_7 : p0 = 10015
      · replace h := ift c_7 h
        refine v_tabIn (v := 10015) (tgt := 110) c_7 hC dX6_join_1 (by decide) (by decide) rfl (by decide) ?_
        refine v_iload_n hC dX6_join_110 1 rfl ?_
        refine v_iload_n hC dX6_join_111 2 rfl ?_
        refine v_iadd hC dX6_join_112 ?_
        exact v_iret hC rfl dX6_join_113 h
      · replace h := ifn c_7 h
        by_cases c_8 : p0 = 10016
        · replace h := ift c_8 h
          refine v_tabIn (v := 10016) (tgt := 114) c_8 hC dX6_join_1 (by decide) (by decide) rfl (by decide) ?_
          refine v_iload_n hC dX6_join_114 1 rfl ?_
          refine v_iload_n hC dX6_join_115 2 rfl ?_
          refine v_isub hC dX6_join_116 ?_
          exact v_iret hC rfl dX6_join_117 h
        · replace h := ifn c_8 h
          by_cases c_9 : p0 = 10017
          · replace h := ift c_9 h
            refine v_tabIn (v := 10017) (tgt := 118) c_9 hC dX6_join_1 (by decide) (by decide) rfl (by decide) ?_
            refine v_iload_n hC dX6_join_118 1 rfl ?_
            refine v_iload_n hC dX6_join_119 2 rfl ?_
            refine v_imul hC dX6_join_120 ?_
            exact v_iret hC rfl dX6_join_121 h
          · replace h := ifn c_9 h
            by_cases c_10 : p0 = 10018
            · replace h := ift c_10 h
              refine v_tabIn (v := 10018) (tgt := 88) c_10 hC dX6_join_1 (by decide) (by decide) rfl (by decide) ?_
              refine v_iload_n hC dX6_join_88 1 rfl ?_
              refine v_iload_n hC dX6_join_89 2 rfl ?_
              refine v_icmp_ge (tgt := 97) hC dX6_join_90 (by decide) (fun c_11 => ?_) (fun c_11 => ?_)
              · replace h := ift c_11 h
                refine v_iconst (v := 0) hC dX6_join_97 (by decide) ?_
                exact v_iret hC rfl dX6_join_98 h
              · replace h := ifn c_11 h
                refine v_iconst (v := 1) hC dX6_join_93 (by decide) ?_
                refine v_goto (tgt := 98) hC dX6_join_94 (by decide) ?_
                exact v_iret hC rfl dX6_join_98 h
            · replace h := ifn c_10 h
              by_cases c_12 : p0 = 10019
              · replace h := ift c_12 h
                refine v_tabIn (v := 10019) (tgt := 99) c_12 hC dX6_join_1 (by decide) (by decide) rfl (by decide) ?_
                refine v_iload_n hC dX6_join_99 1 rfl ?_
                refine v_iload_n hC dX6_join_100 2 rfl ?_
                refine v_icmp_ne (tgt := 108) hC dX6_join_101 (by decide) (fun c_13 => ?_) (fun c_13 => ?_)
                · replace h := ifn c_13 h
                  refine v_iconst (v := 0) hC dX6_join_108 (by decide) ?_
                  exact v_iret hC rfl dX6_join_109 h
                · replace h := ift c_13 h
                  refine v_iconst (v := 1) hC dX6_join_104 (by decide) ?_
                  refine v_goto (tgt := 109) hC dX6_join_105 (by decide) ?_
                  exact v_iret hC rfl dX6_join_109 h
              · replace h := ifn c_12 h
                have nc_1 : (Int32.toInt p0) ≠ 10009 := fun q => c_1 (Int32.toInt_inj.mp q)
                have nc_4 : (Int32.toInt p0) ≠ 10010 := fun q => c_4 (Int32.toInt_inj.mp q)
                have nc_7 : (Int32.toInt p0) ≠ 10015 := fun q => c_7 (Int32.toInt_inj.mp q)
                have nc_8 : (Int32.toInt p0) ≠ 10016 := fun q => c_8 (Int32.toInt_inj.mp q)
                have nc_9 : (Int32.toInt p0) ≠ 10017 := fun q => c_9 (Int32.toInt_inj.mp q)
                have nc_10 : (Int32.toInt p0) ≠ 10018 := fun q => c_10 (Int32.toInt_inj.mp q)
                have nc_12 : (Int32.toInt p0) ≠ 10019 := fun q => c_12 (Int32.toInt_inj.mp q)
                refine v_tabOut (tgt := 122) (lo := 10009) (hi := 10019) [0, 1, 6, 7, 8, 9, 10] hC dX6_join_1 (by decide) (fun k hk => by simp only [List.mem_cons, List.not_mem_nil, or_false] at hk; omega) (by decide) ?_
                refine v_iconst (v := 0) hC dX6_join_122 (by decide) ?_
                exact v_iret hC rfl dX6_join_123 h
theorem k_X6_join {adK adV : Nat → Nat} {tb : Nat} (l : Launch) {G : WD}  {r0 : Int32} {τ : HS} {p0 : Int32} {p1 : Int32} {p2 : Int32} {σ : HS}  (hG : GX G xY)  (h : c_X6_join p0 p1 p2 σ = some (r0, τ)) : MI (xE adK adV tb) l yX6_join wsX6_join rmX6_join G xY [.int p0, .int p1, .int p2] σ r0 τ :=
  MI.of RX6 (by decide) rfl rfl (Nat.le_of_ble_eq_true rfl) rfl rfl (fun p e s m below meth c hC => w_X6_join  hG  hC h)
abbrev rmX6_work : Room := { frames := 1, cells := 0, slots := 0, locals := 22 }
def c_X6_work_42 (j0 : Nat) (y1 : Int32) (σ : HS) : Option HS := (bi1 (c_X6_push j0 y1 σ) (fun s32 => (some s32)))
set_option maxHeartbeats 4000000 in
set_option maxRecDepth 100000 in
theorem w_X6_work_42 {adK adV : Nat → Nat} {tb : Nat} {p : Program} {l : Launch} {e : Env} {s : State} {m : MethodId} {args : Array Value} {below : List Frame} {meth : Method} {c : Code} {A : Nat → Prop} {G : WD}  {τ : HS} {j0 : Nat} {y1 : Int32} {σ : HS}  (hG : GX G xY) (hP0 : Ob G xY j0 6) (hC : Cx (xE adK adV tb) G.1 G.2.1 xY cX6_work 4 none RX6 wsX6_work p s m args meth c A)  (h : c_X6_work_42 j0 y1 σ = some τ) : V p l e rmX6_work s m args below meth c 4 A G xY 0 0 (MQ below (QV G xY A τ) args s 0 0 A) σ 42 [] [.int y1, .ref (G.2.2.1 j0)] := by
  rw [c_X6_work_42] at h
  obtain ⟨s32, hc_31, h⟩ := bd1 h
  refine v_callVV hC xE_ok (n := 1) (As := [.int y1]) (k_X6_push l hG (hP0) hc_31) (cwV 1 hC.1.2.2.2.2 gX6_work_X6_push rfl rfl rfl (by decide +kernel) ⟨(Nat.le_of_ble_eq_true rfl), (Nat.le_of_ble_eq_true rfl)⟩) hP0 (by decide) rfl rfl rfl (Nat.le_of_ble_eq_true rfl) ⟨Nat.zero_le _, Nat.zero_le _⟩ dX6_work_42 rfl ?_
  refine v_goto (tgt := 111) hC dX6_work_45 (by decide) ?_
  exact v_vret hC rfl dX6_work_111 h
def c_X6_work_68 (j0 : Nat) (y1 : Int32) (σ : HS) : Option HS := (bi1 (c_X6_push j0 y1 σ) (fun s30 => (some s30)))
set_option maxHeartbeats 4000000 in
set_option maxRecDepth 100000 in
theorem w_X6_work_68 {adK adV : Nat → Nat} {tb : Nat} {p : Program} {l : Launch} {e : Env} {s : State} {m : MethodId} {args : Array Value} {below : List Frame} {meth : Method} {c : Code} {A : Nat → Prop} {G : WD}  {τ : HS} {j0 : Nat} {y1 : Int32} {σ : HS}  (hG : GX G xY) (hP0 : Ob G xY j0 6) (hC : Cx (xE adK adV tb) G.1 G.2.1 xY cX6_work 4 none RX6 wsX6_work p s m args meth c A)  (h : c_X6_work_68 j0 y1 σ = some τ) : V p l e rmX6_work s m args below meth c 4 A G xY 0 0 (MQ below (QV G xY A τ) args s 0 0 A) σ 68 [] [.int y1, .ref (G.2.2.1 j0)] := by
  rw [c_X6_work_68] at h
  obtain ⟨s30, hc_29, h⟩ := bd1 h
  refine v_callVV hC xE_ok (n := 1) (As := [.int y1]) (k_X6_push l hG (hP0) hc_29) (cwV 1 hC.1.2.2.2.2 gX6_work_X6_push rfl rfl rfl (by decide +kernel) ⟨(Nat.le_of_ble_eq_true rfl), (Nat.le_of_ble_eq_true rfl)⟩) hP0 (by decide) rfl rfl rfl (Nat.le_of_ble_eq_true rfl) ⟨Nat.zero_le _, Nat.zero_le _⟩ dX6_work_68 rfl ?_
  refine v_goto (tgt := 111) hC dX6_work_71 (by decide) ?_
  exact v_vret hC rfl dX6_work_111 h
def c_X6_work (i0 : Nat) (p1 : Int32) (σ : HS) : Option HS := (if 10000 ≤ p1 then (if 10006 ≤ p1 then (if p1 = 10011 then (bi2 (c_X6_pull i0 σ) (fun r23 s22 => (if r23 = 0 then (c_X6_work_68 i0 1 s22) else (c_X6_work_68 i0 0 s22)))) else (if p1 = 10020 then (bi2 (c_X6_pull i0 σ) (fun r18 s17 => (bi1 (c_X6_push i0 (-r18) s17) (fun s20 => (some s20))))) else (bi2 (c_X6_pull i0 σ) (fun r7 s6 => (bi2 (c_X6_pull i0 s6) (fun r10 s9 => (bi2 (c_X6_join p1 r10 r7 s9) (fun r13 s12 => (bi1 (c_X6_push i0 r13 s12) (fun s15 => (some s15))))))))))) else (if 6 ≤ (p1 - 10000) then (c_X6_work_42 i0 0 σ) else (if inb (p1 - 10000) 6 = true then (c_X6_work_42 i0 (gI σ 16 (ix (p1 - 10000))) σ) else none))) else (bi1 (c_X6_push i0 p1 σ) (fun s28 => (some s28))))
set_option maxHeartbeats 4000000 in
set_option maxRecDepth 100000 in
theorem w_X6_work {adK adV : Nat → Nat} {tb : Nat} {p : Program} {l : Launch} {e : Env} {s : State} {m : MethodId} {args : Array Value} {below : List Frame} {meth : Method} {c : Code} {A : Nat → Prop} {G : WD}  {τ : HS} {i0 : Nat} {p1 : Int32} {σ : HS}  (hG : GX G xY) (hO0 : Ob G xY i0 6) (hO2 : Ob G xY 16 9) (hC : Cx (xE adK adV tb) G.1 G.2.1 xY cX6_work 4 none RX6 wsX6_work p s m args meth c A) (h : c_X6_work i0 p1 σ = some τ) : V p l e rmX6_work s m args below meth c 4 A G xY 0 0 (MQ below (QV G xY A τ) args s 0 0 A) σ 0 [(0, .ref (G.2.2.1 i0)), (1, .int p1), (2, .ref (G.2.2.1 16))] [] := by
  rw [c_X6_work] at h
  refine v_iload_n hC dX6_work_0 1 rfl ?_
  refine v_sipush (v := 10000) hC dX6_work_1 (by decide) ?_
  refine v_icmp_ge (tgt := 15) hC dX6_work_4 (by decide) (fun c_1 => ?_) (fun c_1 => ?_)
  · replace h := ift c_1 h
    refine v_iload_n hC dX6_work_15 1 rfl ?_
    refine v_sipush (v := 10006) hC dX6_work_16 (by decide) ?_
    refine v_icmp_ge (tgt := 48) hC dX6_work_19 (by decide) (fun c_2 => ?_) (fun c_2 => ?_)
    · replace h := ift c_2 h
      refine v_iload_n hC dX6_work_48 1 rfl ?_
      refine v_sipush (v := 10011) hC dX6_work_49 (by decide) ?_
      refine v_icmp_ne (tgt := 74) hC dX6_work_52 (by decide) (fun c_3 => ?_) (fun c_3 => ?_)
      · replace h := ifn c_3 h
        refine v_iload_n hC dX6_work_74 1 rfl ?_
        refine v_sipush (v := 10020) hC dX6_work_75 (by decide) ?_
        refine v_icmp_ne (tgt := 93) hC dX6_work_78 (by decide) (fun c_4 => ?_) (fun c_4 => ?_)
        · replace h := ifn c_4 h
          refine v_aload_n hC dX6_work_93 0 rfl ?_
          obtain ⟨r7, s6, hc_5, h⟩ := bd2 h
          refine v_callVI hC xE_ok (n := 0) (As := []) (k_X6_pull l hG (hO0) hc_5) (cwV 0 hC.1.2.2.2.2 gX6_work_X6_pull rfl rfl rfl (by decide +kernel) ⟨(Nat.le_of_ble_eq_true rfl), (Nat.le_of_ble_eq_true rfl)⟩) hO0 (by decide) rfl rfl rfl (Nat.le_of_ble_eq_true rfl) ⟨Nat.zero_le _, Nat.zero_le _⟩ dX6_work_94 rfl ?_
          refine v_istore_n (L' := [(0, .ref (G.2.2.1 i0)), (1, .int p1), (3, .int r7)]) hC dX6_work_97 (by decide) [1, 2, 0] rfl ?_
          refine v_aload_n hC dX6_work_98 0 rfl ?_
          refine v_iload_n hC dX6_work_99 1 rfl ?_
          refine v_aload_n hC dX6_work_100 0 rfl ?_
          obtain ⟨r10, s9, hc_8, h⟩ := bd2 h
          refine v_callVI hC xE_ok (n := 0) (As := []) (k_X6_pull l hG (hO0) hc_8) (cwV 0 hC.1.2.2.2.2 gX6_work_X6_pull rfl rfl rfl (by decide +kernel) ⟨(Nat.le_of_ble_eq_true rfl), (Nat.le_of_ble_eq_true rfl)⟩) hO0 (by decide) rfl rfl rfl (Nat.le_of_ble_eq_true rfl) ⟨Nat.zero_le _, Nat.zero_le _⟩ dX6_work_101 rfl ?_
          refine v_iload_n hC dX6_work_104 2 rfl ?_
          obtain ⟨r13, s12, hc_11, h⟩ := bd2 h
          refine v_callSI hC xE_ok (n := 3) (As := [.int p1, .int r10, .int r7]) (k_X6_join l hG hc_11) (va_cwS 3 hC.1.2.2.2.2 gX6_work_X6_join rfl rfl rfl (by decide +kernel) ⟨(Nat.le_of_ble_eq_true rfl), (Nat.le_of_ble_eq_true rfl)⟩) rfl (Nat.le_of_ble_eq_true rfl) ⟨Nat.zero_le _, Nat.zero_le _⟩ dX6_work_105 rfl ?_
          obtain ⟨s15, hc_14, h⟩ := bd1 h
          refine v_callVV hC xE_ok (n := 1) (As := [.int r13]) (k_X6_push l hG (hO0) hc_14) (cwV 1 hC.1.2.2.2.2 gX6_work_X6_push rfl rfl rfl (by decide +kernel) ⟨(Nat.le_of_ble_eq_true rfl), (Nat.le_of_ble_eq_true rfl)⟩) hO0 (by decide) rfl rfl rfl (Nat.le_of_ble_eq_true rfl) ⟨Nat.zero_le _, Nat.zero_le _⟩ dX6_work_108 rfl ?_
          exact v_vret hC rfl dX6_work_111 h
        · replace h := ift c_4 h
          refine v_aload_n hC dX6_work_81 0 rfl ?_
          refine v_aload_n hC dX6_work_82 0 rfl ?_
          obtain ⟨r18, s17, hc_16, h⟩ := bd2 h
          refine v_callVI hC xE_ok (n := 0) (As := []) (k_X6_pull l hG (hO0) hc_16) (cwV 0 hC.1.2.2.2.2 gX6_work_X6_pull rfl rfl rfl (by decide +kernel) ⟨(Nat.le_of_ble_eq_true rfl), (Nat.le_of_ble_eq_true rfl)⟩) hO0 (by decide) rfl rfl rfl (Nat.le_of_ble_eq_true rfl) ⟨Nat.zero_le _, Nat.zero_le _⟩ dX6_work_83 rfl ?_
          refine v_ineg hC dX6_work_86 ?_
          obtain ⟨s20, hc_19, h⟩ := bd1 h
          refine v_callVV hC xE_ok (n := 1) (As := [.int (-r18)]) (k_X6_push l hG (hO0) hc_19) (cwV 1 hC.1.2.2.2.2 gX6_work_X6_push rfl rfl rfl (by decide +kernel) ⟨(Nat.le_of_ble_eq_true rfl), (Nat.le_of_ble_eq_true rfl)⟩) hO0 (by decide) rfl rfl rfl (Nat.le_of_ble_eq_true rfl) ⟨Nat.zero_le _, Nat.zero_le _⟩ dX6_work_87 rfl ?_
          refine v_goto (tgt := 111) hC dX6_work_90 (by decide) ?_
          exact v_vret hC rfl dX6_work_111 h
      · replace h := ift c_3 h
        refine v_aload_n hC dX6_work_55 0 rfl ?_
        refine v_aload_n hC dX6_work_56 0 rfl ?_
        obtain ⟨r23, s22, hc_21, h⟩ := bd2 h
        refine v_callVI hC xE_ok (n := 0) (As := []) (k_X6_pull l hG (hO0) hc_21) (cwV 0 hC.1.2.2.2.2 gX6_work_X6_pull rfl rfl rfl (by decide +kernel) ⟨(Nat.le_of_ble_eq_true rfl), (Nat.le_of_ble_eq_true rfl)⟩) hO0 (by decide) rfl rfl rfl (Nat.le_of_ble_eq_true rfl) ⟨Nat.zero_le _, Nat.zero_le _⟩ dX6_work_57 rfl ?_
        refine v_if_ne (tgt := 67) hC dX6_work_60 (by decide) (fun c_24 => ?_) (fun c_24 => ?_)
        · replace h := ifn c_24 h
          refine v_iconst (v := 0) hC dX6_work_67 (by decide) ?_
          refine V.sub (L' := []) [] rfl ?_
          exact w_X6_work_68 hG (hO0) hC h
        · replace h := ift c_24 h
          refine v_iconst (v := 1) hC dX6_work_63 (by decide) ?_
          refine v_goto (tgt := 68) hC dX6_work_64 (by decide) ?_
          refine V.sub (L' := []) [] rfl ?_
          exact w_X6_work_68 hG (hO0) hC h
    · replace h := ifn c_2 h
      refine v_iload_n hC dX6_work_22 1 rfl ?_
      refine v_sipush (v := 10000) hC dX6_work_23 (by decide) ?_
      refine v_isub hC dX6_work_26 ?_
      refine v_istore_n (L' := [(0, .ref (G.2.2.1 i0)), (2, .ref (G.2.2.1 16)), (3, .int (p1 - 10000))]) hC dX6_work_27 (by decide) [1, 3, 0] rfl ?_
      refine v_aload_n hC dX6_work_28 0 rfl ?_
      refine v_iload_n hC dX6_work_29 2 rfl ?_
      refine v_aload_n hC dX6_work_30 1 rfl ?_
      refine v_alen (v := 6) hC hO2 rfl (t0 := 0) rfl (by decide) dX6_work_31 ?_
      refine v_icmp_ge (tgt := 41) hC dX6_work_32 (by decide) (fun c_25 => ?_) (fun c_25 => ?_)
      · replace h := ift c_25 h
        refine v_iconst (v := 0) hC dX6_work_41 (by decide) ?_
        refine V.sub (L' := []) [] rfl ?_
        exact w_X6_work_42 hG (hO0) hC h
      · replace h := ifn c_25 h
        refine v_aload_n hC dX6_work_35 1 rfl ?_
        refine v_iload_n hC dX6_work_36 2 rfl ?_
        obtain ⟨g_26, h⟩ := gd h
        refine v_iald hC hO2 rfl (t0 := 0) rfl g_26 dX6_work_37 ?_
        refine v_goto (tgt := 42) hC dX6_work_38 (by decide) ?_
        refine V.sub (L' := []) [] rfl ?_
        exact w_X6_work_42 hG (hO0) hC h
  · replace h := ifn c_1 h
    refine v_aload_n hC dX6_work_7 0 rfl ?_
    refine v_iload_n hC dX6_work_8 1 rfl ?_
    obtain ⟨s28, hc_27, h⟩ := bd1 h
    refine v_callVV hC xE_ok (n := 1) (As := [.int p1]) (k_X6_push l hG (hO0) hc_27) (cwV 1 hC.1.2.2.2.2 gX6_work_X6_push rfl rfl rfl (by decide +kernel) ⟨(Nat.le_of_ble_eq_true rfl), (Nat.le_of_ble_eq_true rfl)⟩) hO0 (by decide) rfl rfl rfl (Nat.le_of_ble_eq_true rfl) ⟨Nat.zero_le _, Nat.zero_le _⟩ dX6_work_9 rfl ?_
    refine v_goto (tgt := 111) hC dX6_work_12 (by decide) ?_
    exact v_vret hC rfl dX6_work_111 h
theorem k_X6_work {adK adV : Nat → Nat} {tb : Nat} (l : Launch) {G : WD}  {τ : HS} {i0 : Nat} {p1 : Int32} {σ : HS}  (hG : GX G xY) (hO0 : Ob G xY i0 6) (hO2 : Ob G xY 16 9) (h : c_X6_work i0 p1 σ = some τ) : MV (xE adK adV tb) l yX6_work wsX6_work rmX6_work G xY [.ref (G.2.2.1 i0), .int p1, .ref (G.2.2.1 16)] σ τ :=
  MV.of RX6 (by decide) rfl rfl (Nat.le_of_ble_eq_true rfl) rfl rfl (fun p e s m below meth c hC => w_X6_work  hG hO0 hO2 hC h)
abbrev rmX6_worth : Room := { frames := 2, cells := 0, slots := 0, locals := 45 }
def c_X6_worth_73 (i0 : Nat) (σ : HS) : Option (Int32 × HS) := (bi2 (c_X6_pull i0 σ) (fun r15 s14 => (some (r15, s14))))
set_option maxHeartbeats 4000000 in
set_option maxRecDepth 100000 in
theorem w_X6_worth_73 {adK adV : Nat → Nat} {tb : Nat} {p : Program} {l : Launch} {e : Env} {s : State} {m : MethodId} {args : Array Value} {below : List Frame} {meth : Method} {c : Code} {A : Nat → Prop} {G : WD}  {r0 : Int32} {τ : HS} {i0 : Nat}  {σ : HS}  (hG : GX G xY) (hO0 : Ob G xY i0 6) (hC : Cx (xE adK adV tb) G.1 G.2.1 xY cX6_worth 5 (some .int) RX6 wsX6_worth p s m args meth c A)  (h : c_X6_worth_73 i0 σ = some (r0, τ)) : V p l e rmX6_worth s m args below meth c 5 A G xY 0 0 (MQ below (QI G xY A r0 τ) args s 0 0 A) σ 73 [(0, .ref (G.2.2.1 i0))] [] := by
  rw [c_X6_worth_73] at h
  refine v_aload_n hC dX6_worth_73 0 rfl ?_
  obtain ⟨r15, s14, hc_13, h⟩ := bd2 h
  refine v_callVI hC xE_ok (n := 0) (As := []) (k_X6_pull l hG (hO0) hc_13) (cwV 0 hC.1.2.2.2.2 gX6_worth_X6_pull rfl rfl rfl (by decide +kernel) ⟨(Nat.le_of_ble_eq_true rfl), (Nat.le_of_ble_eq_true rfl)⟩) hO0 (by decide) rfl rfl rfl (Nat.le_of_ble_eq_true rfl) ⟨Nat.zero_le _, Nat.zero_le _⟩ dX6_worth_74 rfl ?_
  exact v_iret hC rfl dX6_worth_77 h
def c_X6_worth_36 : Nat → Nat → Int32 → Int32 → HS → Option (Int32 × HS)
  | 0, _, _, _, _ => none
  | n + 1, i0, x1, x4, σ => (if inb x1 3 = true then (if (gI σ (i0 + 2) (ix x1)) ≤ x4 then (c_X6_worth_73 i0 σ) else (if 160 ≤ x4 then (c_X6_worth_73 i0 σ) else (if inb x4 160 = true then (bi1 (c_X6_work i0 (gI σ (i0 + 1) (ix x4)) σ) (fun s12 => (c_X6_worth_36 n i0 x1 (x4 + 1) s12))) else none))) else none)
set_option maxHeartbeats 4000000 in
set_option maxRecDepth 100000 in
theorem w_X6_worth_36 {adK adV : Nat → Nat} {tb : Nat} {p : Program} {l : Launch} {e : Env} {s : State} {m : MethodId} {args : Array Value} {below : List Frame} {meth : Method} {c : Code} {A : Nat → Prop} {G : WD}  {r0 : Int32} {τ : HS} {i0 : Nat}  (hG : GX G xY) (hO0 : Ob G xY i0 6) (hO2 : Ob G xY 16 9) (hC : Cx (xE adK adV tb) G.1 G.2.1 xY cX6_worth 5 (some .int) RX6 wsX6_worth p s m args meth c A)  : ∀ (n : Nat) (x1 : Int32) (x4 : Int32) (σ : HS), c_X6_worth_36 n i0 x1 x4 σ = some (r0, τ) → V p l e rmX6_worth s m args below meth c 5 A G xY 0 0 (MQ below (QI G xY A r0 τ) args s 0 0 A) σ 36 [(0, .ref (G.2.2.1 i0)), (1, .int x1), (2, .ref (G.2.2.1 16)), (4, .int x4)] [] := by
  intro n
  induction n with
  | zero => intro x1 x4 σ h; exact nof h
  | succ n ih =>
    intro x1 x4 σ h
    rw [c_X6_worth_36] at h
    refine v_iload hC dX6_worth_36 3 rfl ?_
    refine v_aload_n hC dX6_worth_38 0 rfl ?_
    refine v_get (C := RX6) (T := TX6) (N := 5) (ci := 6) (k := 2) (v := .ref (G.2.2.1 (i0 + 2))) hC hO0 hi_X6_worth_X6 rfl (by decide) (by decide) rfl rfl fl19_X6_worth dX6_worth_39 rfl ?_
    refine v_iload_n hC dX6_worth_42 1 rfl ?_
    obtain ⟨g_7, h⟩ := gd h
    refine v_iald hC (obX_6_2 hG hO0).1 (obX_6_2 hG hO0).2 (t0 := 0) rfl g_7 dX6_worth_43 ?_
    refine v_icmp_ge (tgt := 73) hC dX6_worth_44 (by decide) (fun c_8 => ?_) (fun c_8 => ?_)
    · replace h := ift c_8 h
      refine V.sub (L' := [(0, .ref (G.2.2.1 i0))]) [0] rfl ?_
      exact w_X6_worth_73 hG (hO0) hC h
    · replace h := ifn c_8 h
      refine v_iload hC dX6_worth_47 3 rfl ?_
      refine v_sipush (v := 160) hC dX6_worth_49 (by decide) ?_
      refine v_icmp_ge (tgt := 73) hC dX6_worth_52 (by decide) (fun c_9 => ?_) (fun c_9 => ?_)
      · replace h := ift c_9 h
        refine V.sub (L' := [(0, .ref (G.2.2.1 i0))]) [0] rfl ?_
        exact w_X6_worth_73 hG (hO0) hC h
      · replace h := ifn c_9 h
        refine v_aload_n hC dX6_worth_55 0 rfl ?_
        refine v_aload_n hC dX6_worth_56 0 rfl ?_
        refine v_get (C := RX6) (T := TX6) (N := 5) (ci := 6) (k := 0) (v := .ref (G.2.2.1 (i0 + 1))) hC hO0 hi_X6_worth_X6 rfl (by decide) (by decide) rfl rfl fl9_X6_worth dX6_worth_57 rfl ?_
        refine v_iload hC dX6_worth_60 3 rfl ?_
        obtain ⟨g_10, h⟩ := gd h
        refine v_iald hC (obX_6_0 hG hO0).1 (obX_6_0 hG hO0).2 (t0 := 0) rfl g_10 dX6_worth_62 ?_
        refine v_aload_n hC dX6_worth_63 2 rfl ?_
        obtain ⟨s12, hc_11, h⟩ := bd1 h
        refine v_callVV hC xE_ok (n := 2) (As := [.int (gI σ (i0 + 1) (ix x4)), .ref (G.2.2.1 16)]) (k_X6_work l hG (hO0) (hO2) hc_11) (cwV 2 hC.1.2.2.2.2 gX6_worth_X6_work rfl rfl rfl (by decide +kernel) ⟨(Nat.le_of_ble_eq_true rfl), (Nat.le_of_ble_eq_true rfl)⟩) hO0 (by decide) rfl rfl rfl (Nat.le_of_ble_eq_true rfl) ⟨Nat.zero_le _, Nat.zero_le _⟩ dX6_worth_64 rfl ?_
        refine v_iinc (v := (x4 + 1)) (L' := [(0, .ref (G.2.2.1 i0)), (1, .int x1), (2, .ref (G.2.2.1 16)), (4, .int (x4 + 1))]) hC dX6_worth_67 3 rfl rfl (by decide) [1, 2, 3, 0] rfl ?_
        refine v_goto (tgt := 36) hC dX6_worth_70 (by decide) ?_
        exact ih _ _ _ h
def c_X6_worth_32 (i0 : Nat) (x1 : Int32) (y0 : Int32) (σ : HS) : Option (Int32 × HS) := (c_X6_worth_36 FU i0 x1 y0 σ)
set_option maxHeartbeats 4000000 in
set_option maxRecDepth 100000 in
theorem w_X6_worth_32 {adK adV : Nat → Nat} {tb : Nat} {p : Program} {l : Launch} {e : Env} {s : State} {m : MethodId} {args : Array Value} {below : List Frame} {meth : Method} {c : Code} {A : Nat → Prop} {G : WD}  {r0 : Int32} {τ : HS} {i0 : Nat} {x1 : Int32} {y0 : Int32} {σ : HS}  (hG : GX G xY) (hO0 : Ob G xY i0 6) (hO2 : Ob G xY 16 9) (hC : Cx (xE adK adV tb) G.1 G.2.1 xY cX6_worth 5 (some .int) RX6 wsX6_worth p s m args meth c A)  (h : c_X6_worth_32 i0 x1 y0 σ = some (r0, τ)) : V p l e rmX6_worth s m args below meth c 5 A G xY 0 0 (MQ below (QI G xY A r0 τ) args s 0 0 A) σ 32 [(0, .ref (G.2.2.1 i0)), (1, .int x1), (2, .ref (G.2.2.1 16))] [.int y0] := by
  rw [c_X6_worth_32] at h
  refine v_istore_n (L' := [(0, .ref (G.2.2.1 i0)), (1, .int x1), (2, .ref (G.2.2.1 16)), (3, .int y0)]) hC dX6_worth_32 (by decide) [1, 2, 3, 0] rfl ?_
  refine v_iload_n hC dX6_worth_33 3 rfl ?_
  refine v_istore (L' := [(0, .ref (G.2.2.1 i0)), (1, .int x1), (2, .ref (G.2.2.1 16)), (4, .int y0)]) hC dX6_worth_34 (by decide) [1, 2, 3, 0] rfl ?_
  exact w_X6_worth_36 hG (hO0) (hO2) hC FU _ _ _ h
def c_X6_worth (i0 : Nat) (p1 : Int32) (σ : HS) : Option (Int32 × HS) := (if p1 < 0 then (some (0, σ)) else (if p1 < 3 then (lt (sI σ i0 4 0) (fun s3 => (if p1 = 0 then (c_X6_worth_32 i0 p1 0 s3) else (if inb (p1 - 1) 3 = true then (c_X6_worth_32 i0 p1 (gI s3 (i0 + 2) (ix (p1 - 1))) s3) else none)))) else (some (0, σ))))
set_option maxHeartbeats 4000000 in
set_option maxRecDepth 100000 in
theorem w_X6_worth {adK adV : Nat → Nat} {tb : Nat} {p : Program} {l : Launch} {e : Env} {s : State} {m : MethodId} {args : Array Value} {below : List Frame} {meth : Method} {c : Code} {A : Nat → Prop} {G : WD}  {r0 : Int32} {τ : HS} {i0 : Nat} {p1 : Int32} {σ : HS}  (hG : GX G xY) (hO0 : Ob G xY i0 6) (hO2 : Ob G xY 16 9) (hC : Cx (xE adK adV tb) G.1 G.2.1 xY cX6_worth 5 (some .int) RX6 wsX6_worth p s m args meth c A) (h : c_X6_worth i0 p1 σ = some (r0, τ)) : V p l e rmX6_worth s m args below meth c 5 A G xY 0 0 (MQ below (QI G xY A r0 τ) args s 0 0 A) σ 0 [(0, .ref (G.2.2.1 i0)), (1, .int p1), (2, .ref (G.2.2.1 16))] [] := by
  rw [c_X6_worth] at h
  refine v_iload_n hC dX6_worth_0 1 rfl ?_
  refine v_if_lt (tgt := 9) hC dX6_worth_1 (by decide) (fun c_1 => ?_) (fun c_1 => ?_)
  · replace h := ift c_1 h
    refine v_iconst (v := 0) hC dX6_worth_9 (by decide) ?_
    exact v_iret hC rfl dX6_worth_10 h
  · replace h := ifn c_1 h
    refine v_iload_n hC dX6_worth_4 1 rfl ?_
    refine v_iconst (v := 3) hC dX6_worth_5 (by decide) ?_
    refine v_icmp_lt (tgt := 11) hC dX6_worth_6 (by decide) (fun c_2 => ?_) (fun c_2 => ?_)
    · replace h := ift c_2 h
      refine v_aload_n hC dX6_worth_11 0 rfl ?_
      refine v_iconst (v := 0) hC dX6_worth_12 (by decide) ?_
      refine v_putI (C := RX6) (T := TX6) (N := 5) (ci := 6) (k := 4) (ty := .int) hC hO0 hi_X6_worth_X6 rfl (by decide) (by decide) rfl rfl tyX6_ok nmX6 fl25_X6_worth rfl rfl rfl rfl rfl dX6_worth_13 ?_
      obtain ⟨s3, e4, h⟩ := ld h
      refine V.eq e4 ?_
      refine v_iload_n hC dX6_worth_16 1 rfl ?_
      refine v_if_ne (tgt := 24) hC dX6_worth_17 (by decide) (fun c_5 => ?_) (fun c_5 => ?_)
      · replace h := ifn c_5 h
        refine v_aload_n hC dX6_worth_24 0 rfl ?_
        refine v_get (C := RX6) (T := TX6) (N := 5) (ci := 6) (k := 2) (v := .ref (G.2.2.1 (i0 + 2))) hC hO0 hi_X6_worth_X6 rfl (by decide) (by decide) rfl rfl fl19_X6_worth dX6_worth_25 rfl ?_
        refine v_iload_n hC dX6_worth_28 1 rfl ?_
        refine v_iconst (v := 1) hC dX6_worth_29 (by decide) ?_
        refine v_isub hC dX6_worth_30 ?_
        obtain ⟨g_6, h⟩ := gd h
        refine v_iald hC (obX_6_2 hG hO0).1 (obX_6_2 hG hO0).2 (t0 := 0) rfl g_6 dX6_worth_31 ?_
        exact w_X6_worth_32 hG (hO0) (hO2) hC h
      · replace h := ift c_5 h
        refine v_iconst (v := 0) hC dX6_worth_20 (by decide) ?_
        refine v_goto (tgt := 32) hC dX6_worth_21 (by decide) ?_
        exact w_X6_worth_32 hG (hO0) (hO2) hC h
    · replace h := ifn c_2 h
      refine v_iconst (v := 0) hC dX6_worth_9 (by decide) ?_
      exact v_iret hC rfl dX6_worth_10 h
theorem k_X6_worth {adK adV : Nat → Nat} {tb : Nat} (l : Launch) {G : WD}  {r0 : Int32} {τ : HS} {i0 : Nat} {p1 : Int32} {σ : HS}  (hG : GX G xY) (hO0 : Ob G xY i0 6) (hO2 : Ob G xY 16 9) (h : c_X6_worth i0 p1 σ = some (r0, τ)) : MI (xE adK adV tb) l yX6_worth wsX6_worth rmX6_worth G xY [.ref (G.2.2.1 i0), .int p1, .ref (G.2.2.1 16)] σ r0 τ :=
  MI.of RX6 (by decide) rfl rfl (Nat.le_of_ble_eq_true rfl) rfl rfl (fun p e s m below meth c hC => w_X6_worth  hG hO0 hO2 hC h)
abbrev rmX2_isBlank : Room := { frames := 0, cells := 0, slots := 0, locals := 0 }
def c_X2_isBlank (p0 : Int32) (σ : HS) : Option (Int32 × HS) := (if p0 = 32 then (some (1, σ)) else (if p0 = 10 then (some (1, σ)) else (some (0, σ))))
set_option maxHeartbeats 4000000 in
set_option maxRecDepth 100000 in
theorem w_X2_isBlank {adK adV : Nat → Nat} {tb : Nat} {p : Program} {l : Launch} {e : Env} {s : State} {m : MethodId} {args : Array Value} {below : List Frame} {meth : Method} {c : Code} {A : Nat → Prop} {G : WD}  {r0 : Int32} {τ : HS} {p0 : Int32} {σ : HS}  (hG : GX G xY)  (hC : Cx (xE adK adV tb) G.1 G.2.1 xY cX2_isBlank 1 (some .boolean) RX2 wsX2_isBlank p s m args meth c A) (h : c_X2_isBlank p0 σ = some (r0, τ)) : V p l e rmX2_isBlank s m args below meth c 1 A G xY 0 0 (MQ below (QI G xY A r0 τ) args s 0 0 A) σ 0 [(0, .int p0)] [] := by
  rw [c_X2_isBlank] at h
  refine v_iload_n hC dX2_isBlank_0 0 rfl ?_
  refine v_bipush (v := 32) hC dX2_isBlank_1 (by decide) ?_
  refine v_icmp_eq (tgt := 12) hC dX2_isBlank_3 (by decide) (fun c_1 => ?_) (fun c_1 => ?_)
  · replace h := ift c_1 h
    refine v_iconst (v := 1) hC dX2_isBlank_12 (by decide) ?_
    refine v_goto (tgt := 17) hC dX2_isBlank_13 (by decide) ?_
    exact v_zret hC rfl rfl dX2_isBlank_17 h
  · replace h := ifn c_1 h
    refine v_iload_n hC dX2_isBlank_6 0 rfl ?_
    refine v_bipush (v := 10) hC dX2_isBlank_7 (by decide) ?_
    refine v_icmp_ne (tgt := 16) hC dX2_isBlank_9 (by decide) (fun c_2 => ?_) (fun c_2 => ?_)
    · replace h := ifn c_2 h
      refine v_iconst (v := 0) hC dX2_isBlank_16 (by decide) ?_
      exact v_zret hC rfl rfl dX2_isBlank_17 h
    · replace h := ift c_2 h
      refine v_iconst (v := 1) hC dX2_isBlank_12 (by decide) ?_
      refine v_goto (tgt := 17) hC dX2_isBlank_13 (by decide) ?_
      exact v_zret hC rfl rfl dX2_isBlank_17 h
theorem k_X2_isBlank {adK adV : Nat → Nat} {tb : Nat} (l : Launch) {G : WD}  {r0 : Int32} {τ : HS} {p0 : Int32} {σ : HS}  (hG : GX G xY)  (h : c_X2_isBlank p0 σ = some (r0, τ)) : MI (xE adK adV tb) l yX2_isBlank wsX2_isBlank rmX2_isBlank G xY [.int p0] σ r0 τ :=
  MI.of RX2 (by decide) rfl rfl (Nat.le_of_ble_eq_true rfl) rfl rfl (fun p e s m below meth c hC => w_X2_isBlank  hG  hC h)
abbrev rmX2_isLetter : Room := { frames := 0, cells := 0, slots := 0, locals := 0 }
def c_X2_isLetter (p0 : Int32) (σ : HS) : Option (Int32 × HS) := (if p0 < 97 then (some (0, σ)) else (if 122 < p0 then (some (0, σ)) else (some (1, σ))))
set_option maxHeartbeats 4000000 in
set_option maxRecDepth 100000 in
theorem w_X2_isLetter {adK adV : Nat → Nat} {tb : Nat} {p : Program} {l : Launch} {e : Env} {s : State} {m : MethodId} {args : Array Value} {below : List Frame} {meth : Method} {c : Code} {A : Nat → Prop} {G : WD}  {r0 : Int32} {τ : HS} {p0 : Int32} {σ : HS}  (hG : GX G xY)  (hC : Cx (xE adK adV tb) G.1 G.2.1 xY cX2_isLetter 1 (some .boolean) RX2 wsX2_isLetter p s m args meth c A) (h : c_X2_isLetter p0 σ = some (r0, τ)) : V p l e rmX2_isLetter s m args below meth c 1 A G xY 0 0 (MQ below (QI G xY A r0 τ) args s 0 0 A) σ 0 [(0, .int p0)] [] := by
  rw [c_X2_isLetter] at h
  refine v_iload_n hC dX2_isLetter_0 0 rfl ?_
  refine v_bipush (v := 97) hC dX2_isLetter_1 (by decide) ?_
  refine v_icmp_lt (tgt := 16) hC dX2_isLetter_3 (by decide) (fun c_1 => ?_) (fun c_1 => ?_)
  · replace h := ift c_1 h
    refine v_iconst (v := 0) hC dX2_isLetter_16 (by decide) ?_
    exact v_zret hC rfl rfl dX2_isLetter_17 h
  · replace h := ifn c_1 h
    refine v_iload_n hC dX2_isLetter_6 0 rfl ?_
    refine v_bipush (v := 122) hC dX2_isLetter_7 (by decide) ?_
    refine v_icmp_gt (tgt := 16) hC dX2_isLetter_9 (by decide) (fun c_2 => ?_) (fun c_2 => ?_)
    · replace h := ift c_2 h
      refine v_iconst (v := 0) hC dX2_isLetter_16 (by decide) ?_
      exact v_zret hC rfl rfl dX2_isLetter_17 h
    · replace h := ifn c_2 h
      refine v_iconst (v := 1) hC dX2_isLetter_12 (by decide) ?_
      refine v_goto (tgt := 17) hC dX2_isLetter_13 (by decide) ?_
      exact v_zret hC rfl rfl dX2_isLetter_17 h
theorem k_X2_isLetter {adK adV : Nat → Nat} {tb : Nat} (l : Launch) {G : WD}  {r0 : Int32} {τ : HS} {p0 : Int32} {σ : HS}  (hG : GX G xY)  (h : c_X2_isLetter p0 σ = some (r0, τ)) : MI (xE adK adV tb) l yX2_isLetter wsX2_isLetter rmX2_isLetter G xY [.int p0] σ r0 τ :=
  MI.of RX2 (by decide) rfl rfl (Nat.le_of_ble_eq_true rfl) rfl rfl (fun p e s m below meth c hC => w_X2_isLetter  hG  hC h)
abbrev rmX2_isDigit : Room := { frames := 0, cells := 0, slots := 0, locals := 0 }
def c_X2_isDigit (p0 : Int32) (σ : HS) : Option (Int32 × HS) := (if p0 < 48 then (some (0, σ)) else (if 57 < p0 then (some (0, σ)) else (some (1, σ))))
set_option maxHeartbeats 4000000 in
set_option maxRecDepth 100000 in
theorem w_X2_isDigit {adK adV : Nat → Nat} {tb : Nat} {p : Program} {l : Launch} {e : Env} {s : State} {m : MethodId} {args : Array Value} {below : List Frame} {meth : Method} {c : Code} {A : Nat → Prop} {G : WD}  {r0 : Int32} {τ : HS} {p0 : Int32} {σ : HS}  (hG : GX G xY)  (hC : Cx (xE adK adV tb) G.1 G.2.1 xY cX2_isDigit 1 (some .boolean) RX2 wsX2_isDigit p s m args meth c A) (h : c_X2_isDigit p0 σ = some (r0, τ)) : V p l e rmX2_isDigit s m args below meth c 1 A G xY 0 0 (MQ below (QI G xY A r0 τ) args s 0 0 A) σ 0 [(0, .int p0)] [] := by
  rw [c_X2_isDigit] at h
  refine v_iload_n hC dX2_isDigit_0 0 rfl ?_
  refine v_bipush (v := 48) hC dX2_isDigit_1 (by decide) ?_
  refine v_icmp_lt (tgt := 16) hC dX2_isDigit_3 (by decide) (fun c_1 => ?_) (fun c_1 => ?_)
  · replace h := ift c_1 h
    refine v_iconst (v := 0) hC dX2_isDigit_16 (by decide) ?_
    exact v_zret hC rfl rfl dX2_isDigit_17 h
  · replace h := ifn c_1 h
    refine v_iload_n hC dX2_isDigit_6 0 rfl ?_
    refine v_bipush (v := 57) hC dX2_isDigit_7 (by decide) ?_
    refine v_icmp_gt (tgt := 16) hC dX2_isDigit_9 (by decide) (fun c_2 => ?_) (fun c_2 => ?_)
    · replace h := ift c_2 h
      refine v_iconst (v := 0) hC dX2_isDigit_16 (by decide) ?_
      exact v_zret hC rfl rfl dX2_isDigit_17 h
    · replace h := ifn c_2 h
      refine v_iconst (v := 1) hC dX2_isDigit_12 (by decide) ?_
      refine v_goto (tgt := 17) hC dX2_isDigit_13 (by decide) ?_
      exact v_zret hC rfl rfl dX2_isDigit_17 h
theorem k_X2_isDigit {adK adV : Nat → Nat} {tb : Nat} (l : Launch) {G : WD}  {r0 : Int32} {τ : HS} {p0 : Int32} {σ : HS}  (hG : GX G xY)  (h : c_X2_isDigit p0 σ = some (r0, τ)) : MI (xE adK adV tb) l yX2_isDigit wsX2_isDigit rmX2_isDigit G xY [.int p0] σ r0 τ :=
  MI.of RX2 (by decide) rfl rfl (Nat.le_of_ble_eq_true rfl) rfl rfl (fun p e s m below meth c hC => w_X2_isDigit  hG  hC h)
abbrev rmX2_signToken : Room := { frames := 0, cells := 0, slots := 0, locals := 0 }
def c_X2_signToken (p0 : Int32) (σ : HS) : Option (Int32 × HS) := (if p0 = 40 then (some (10012, σ)) else (if p0 = 41 then (some (10013, σ)) else (if p0 = 42 then (some (10017, σ)) else (if p0 = 43 then (some (10015, σ)) else (if p0 = 45 then (some (10016, σ)) else (if p0 = 59 then (some (10014, σ)) else (if p0 = 60 then (some (10018, σ)) else (if p0 = 61 then (some (10019, σ)) else (some (10022, σ))))))))))
set_option maxHeartbeats 4000000 in
set_option maxRecDepth 100000 in
theorem w_X2_signToken {adK adV : Nat → Nat} {tb : Nat} {p : Program} {l : Launch} {e : Env} {s : State} {m : MethodId} {args : Array Value} {below : List Frame} {meth : Method} {c : Code} {A : Nat → Prop} {G : WD}  {r0 : Int32} {τ : HS} {p0 : Int32} {σ : HS}  (hG : GX G xY)  (hC : Cx (xE adK adV tb) G.1 G.2.1 xY cX2_signToken 1 (some .int) RX2 wsX2_signToken p s m args meth c A) (h : c_X2_signToken p0 σ = some (r0, τ)) : V p l e rmX2_signToken s m args below meth c 1 A G xY 0 0 (MQ below (QI G xY A r0 τ) args s 0 0 A) σ 0 [(0, .int p0)] [] := by
  rw [c_X2_signToken] at h
  refine v_iload_n hC dX2_signToken_0 0 rfl ?_
  by_cases c_1 : p0 = 40
  · replace h := ift c_1 h
    refine v_tabIn (v := 40) (tgt := 104) c_1 hC dX2_signToken_1 (by decide) (by decide) rfl (by decide) ?_
    refine v_sipush (v := 10012) hC dX2_signToken_104 (by decide) ?_
    exact v_iret hC rfl dX2_signToken_107 h
  · replace h := ifn c_1 h
    by_cases c_2 : p0 = 41
    · replace h := ift c_2 h
      refine v_tabIn (v := 41) (tgt := 108) c_2 hC dX2_signToken_1 (by decide) (by decide) rfl (by decide) ?_
      refine v_sipush (v := 10013) hC dX2_signToken_108 (by decide) ?_
      exact v_iret hC rfl dX2_signToken_111 h
    · replace h := ifn c_2 h
      by_cases c_3 : p0 = 42
      · replace h := ift c_3 h
        refine v_tabIn (v := 42) (tgt := 124) c_3 hC dX2_signToken_1 (by decide) (by decide) rfl (by decide) ?_
        refine v_sipush (v := 10017) hC dX2_signToken_124 (by decide) ?_
        exact v_iret hC rfl dX2_signToken_127 h
      · replace h := ifn c_3 h
        by_cases c_4 : p0 = 43
        · replace h := ift c_4 h
          refine v_tabIn (v := 43) (tgt := 116) c_4 hC dX2_signToken_1 (by decide) (by decide) rfl (by decide) ?_
          refine v_sipush (v := 10015) hC dX2_signToken_116 (by decide) ?_
          exact v_iret hC rfl dX2_signToken_119 h
        · replace h := ifn c_4 h
          by_cases c_5 : p0 = 45
          · replace h := ift c_5 h
            refine v_tabIn (v := 45) (tgt := 120) c_5 hC dX2_signToken_1 (by decide) (by decide) rfl (by decide) ?_
            refine v_sipush (v := 10016) hC dX2_signToken_120 (by decide) ?_
            exact v_iret hC rfl dX2_signToken_123 h
          · replace h := ifn c_5 h
            by_cases c_6 : p0 = 59
            · replace h := ift c_6 h
              refine v_tabIn (v := 59) (tgt := 112) c_6 hC dX2_signToken_1 (by decide) (by decide) rfl (by decide) ?_
              refine v_sipush (v := 10014) hC dX2_signToken_112 (by decide) ?_
              exact v_iret hC rfl dX2_signToken_115 h
            · replace h := ifn c_6 h
              by_cases c_7 : p0 = 60
              · replace h := ift c_7 h
                refine v_tabIn (v := 60) (tgt := 128) c_7 hC dX2_signToken_1 (by decide) (by decide) rfl (by decide) ?_
                refine v_sipush (v := 10018) hC dX2_signToken_128 (by decide) ?_
                exact v_iret hC rfl dX2_signToken_131 h
              · replace h := ifn c_7 h
                by_cases c_8 : p0 = 61
                · replace h := ift c_8 h
                  refine v_tabIn (v := 61) (tgt := 132) c_8 hC dX2_signToken_1 (by decide) (by decide) rfl (by decide) ?_
                  refine v_sipush (v := 10019) hC dX2_signToken_132 (by decide) ?_
                  exact v_iret hC rfl dX2_signToken_135 h
                · replace h := ifn c_8 h
                  have nc_1 : (Int32.toInt p0) ≠ 40 := fun q => c_1 (Int32.toInt_inj.mp q)
                  have nc_2 : (Int32.toInt p0) ≠ 41 := fun q => c_2 (Int32.toInt_inj.mp q)
                  have nc_3 : (Int32.toInt p0) ≠ 42 := fun q => c_3 (Int32.toInt_inj.mp q)
                  have nc_4 : (Int32.toInt p0) ≠ 43 := fun q => c_4 (Int32.toInt_inj.mp q)
                  have nc_5 : (Int32.toInt p0) ≠ 45 := fun q => c_5 (Int32.toInt_inj.mp q)
                  have nc_6 : (Int32.toInt p0) ≠ 59 := fun q => c_6 (Int32.toInt_inj.mp q)
                  have nc_7 : (Int32.toInt p0) ≠ 60 := fun q => c_7 (Int32.toInt_inj.mp q)
                  have nc_8 : (Int32.toInt p0) ≠ 61 := fun q => c_8 (Int32.toInt_inj.mp q)
                  refine v_tabOut (tgt := 136) (lo := 40) (hi := 61) [0, 1, 2, 3, 5, 19, 20, 21] hC dX2_signToken_1 (by decide) (fun k hk => by simp only [List.mem_cons, List.not_mem_nil, or_false] at hk; omega) (by decide) ?_
                  refine v_sipush (v := 10022) hC dX2_signToken_136 (by decide) ?_
                  exact v_iret hC rfl dX2_signToken_139 h
theorem k_X2_signToken {adK adV : Nat → Nat} {tb : Nat} (l : Launch) {G : WD}  {r0 : Int32} {τ : HS} {p0 : Int32} {σ : HS}  (hG : GX G xY)  (h : c_X2_signToken p0 σ = some (r0, τ)) : MI (xE adK adV tb) l yX2_signToken wsX2_signToken rmX2_signToken G xY [.int p0] σ r0 τ :=
  MI.of RX2 (by decide) rfl rfl (Nat.le_of_ble_eq_true rfl) rfl rfl (fun p e s m below meth c hC => w_X2_signToken  hG  hC h)
