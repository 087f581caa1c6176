theorem fl10_X8_boxes : Cond.fieldLink RX8 10 RX8 (TX8 0).2.1 (TX8 0).2.2.1 ∈ wsX8_boxes := by decide +kernel
theorem hi_X8_boxes_X8 : ∀ w ∈ u_ws RX8 TX8 20, w ∈ wsX8_boxes := by decide +kernel
theorem hi_X8_boxes_X0 : ∀ w ∈ u_ws RX0 TX0 5, w ∈ wsX8_boxes := by decide +kernel
theorem fl16_X8_looks : Cond.fieldLink RX8 16 RX8 (TX8 1).2.1 (TX8 1).2.2.1 ∈ wsX8_looks := by decide +kernel
theorem hi_X8_looks_X8 : ∀ w ∈ u_ws RX8 TX8 20, w ∈ wsX8_looks := by decide +kernel
theorem fl74_X8_sheetAt : Cond.fieldLink RX8 74 RX8 (TX8 15).2.1 (TX8 15).2.2.1 ∈ wsX8_sheetAt := by decide +kernel
theorem hi_X8_sheetAt_X8 : ∀ w ∈ u_ws RX8 TX8 20, w ∈ wsX8_sheetAt := by decide +kernel
theorem hi_X8_holdsLaying_X3 : ∀ w ∈ u_ws RX3 TX3 3, w ∈ wsX8_holdsLaying := by decide +kernel
theorem hi_X8_lay_X3 : ∀ w ∈ u_ws RX3 TX3 3, w ∈ wsX8_lay := by decide +kernel
theorem fl10_X8_lay : Cond.fieldLink RX8 10 RX8 (TX8 0).2.1 (TX8 0).2.2.1 ∈ wsX8_lay := by decide +kernel
theorem hi_X8_lay_X8 : ∀ w ∈ u_ws RX8 TX8 20, w ∈ wsX8_lay := by decide +kernel
theorem hi_X8_lay_X0 : ∀ w ∈ u_ws RX0 TX0 5, w ∈ wsX8_lay := by decide +kernel
theorem fl10_X8_swap : Cond.fieldLink RX8 10 RX8 (TX8 0).2.1 (TX8 0).2.2.1 ∈ wsX8_swap := by decide +kernel
theorem hi_X8_swap_X8 : ∀ w ∈ u_ws RX8 TX8 20, w ∈ wsX8_swap := by decide +kernel
theorem fl10_X8_empty : Cond.fieldLink RX8 10 RX8 (TX8 0).2.1 (TX8 0).2.2.1 ∈ wsX8_empty := by decide +kernel
theorem hi_X8_empty_X8 : ∀ w ∈ u_ws RX8 TX8 20, w ∈ wsX8_empty := by decide +kernel
theorem fl10_X8_box : Cond.fieldLink RX8 10 RX8 (TX8 0).2.1 (TX8 0).2.2.1 ∈ wsX8_box := by decide +kernel
theorem hi_X8_box_X8 : ∀ w ∈ u_ws RX8 TX8 20, w ∈ wsX8_box := by decide +kernel
theorem fl10_X8_rings : Cond.fieldLink RX8 10 RX8 (TX8 0).2.1 (TX8 0).2.2.1 ∈ wsX8_rings := by decide +kernel
theorem hi_X8_rings_X8 : ∀ w ∈ u_ws RX8 TX8 20, w ∈ wsX8_rings := by decide +kernel
theorem hi_X8_rings_X0 : ∀ w ∈ u_ws RX0 TX0 5, w ∈ wsX8_rings := by decide +kernel
theorem fl61_X8_feed : Cond.fieldLink RX8 61 RX8 (TX8 13).2.1 (TX8 13).2.2.1 ∈ wsX8_feed := by decide +kernel
theorem hi_X8_feed_X8 : ∀ w ∈ u_ws RX8 TX8 20, w ∈ wsX8_feed := by decide +kernel
theorem hi_X8_feed_X5 : ∀ w ∈ u_ws RX5 TX5 2, w ∈ wsX8_feed := by decide +kernel
theorem fl55_X8_force : Cond.fieldLink RX8 55 RX8 (TX8 12).2.1 (TX8 12).2.2.1 ∈ wsX8_force := by decide +kernel
theorem hi_X8_force_X8 : ∀ w ∈ u_ws RX8 TX8 20, w ∈ wsX8_force := by decide +kernel
theorem fl20_X8_force : Cond.fieldLink RX8 20 RX8 (TX8 2).2.1 (TX8 2).2.2.1 ∈ wsX8_force := by decide +kernel
theorem fl81_X8_noteLaying : Cond.fieldLink RX8 81 RX8 (TX8 17).2.1 (TX8 17).2.2.1 ∈ wsX8_noteLaying := by decide +kernel
theorem hi_X8_noteLaying_X8 : ∀ w ∈ u_ws RX8 TX8 20, w ∈ wsX8_noteLaying := by decide +kernel
theorem hi_X8_noteLaying_X0 : ∀ w ∈ u_ws RX0 TX0 5, w ∈ wsX8_noteLaying := by decide +kernel
theorem fl20_X8_worth : Cond.fieldLink RX8 20 RX8 (TX8 2).2.1 (TX8 2).2.2.1 ∈ wsX8_worth := by decide +kernel
theorem hi_X8_worth_X8 : ∀ w ∈ u_ws RX8 TX8 20, w ∈ wsX8_worth := by decide +kernel
theorem fl55_X8_worth : Cond.fieldLink RX8 55 RX8 (TX8 12).2.1 (TX8 12).2.2.1 ∈ wsX8_worth := by decide +kernel
theorem fl51_X8_worth : Cond.fieldLink RX8 51 RX8 (TX8 11).2.1 (TX8 11).2.2.1 ∈ wsX8_worth := by decide +kernel
theorem fl81_X8_worth : Cond.fieldLink RX8 81 RX8 (TX8 17).2.1 (TX8 17).2.2.1 ∈ wsX8_worth := by decide +kernel
theorem fl10_X8_bet : Cond.fieldLink RX8 10 RX8 (TX8 0).2.1 (TX8 0).2.2.1 ∈ wsX8_bet := by decide +kernel
theorem hi_X8_bet_X8 : ∀ w ∈ u_ws RX8 TX8 20, w ∈ wsX8_bet := by decide +kernel
theorem fl81_X8_bet : Cond.fieldLink RX8 81 RX8 (TX8 17).2.1 (TX8 17).2.2.1 ∈ wsX8_bet := by decide +kernel
theorem fl36_X8_planAt : Cond.fieldLink RX8 36 RX8 (TX8 8).2.1 (TX8 8).2.2.1 ∈ wsX8_planAt := by decide +kernel
theorem hi_X8_planAt_X8 : ∀ w ∈ u_ws RX8 TX8 20, w ∈ wsX8_planAt := by decide +kernel
theorem fl32_X8_planAt : Cond.fieldLink RX8 32 RX8 (TX8 7).2.1 (TX8 7).2.2.1 ∈ wsX8_planAt := by decide +kernel
theorem fl10_X8_next : Cond.fieldLink RX8 10 RX8 (TX8 0).2.1 (TX8 0).2.2.1 ∈ wsX8_next := by decide +kernel
theorem hi_X8_next_X8 : ∀ w ∈ u_ws RX8 TX8 20, w ∈ wsX8_next := by decide +kernel
theorem hi_X8_next_X0 : ∀ w ∈ u_ws RX0 TX0 5, w ∈ wsX8_next := by decide +kernel
theorem fl16_X8_looksOfEach : Cond.fieldLink RX8 16 RX8 (TX8 1).2.1 (TX8 1).2.2.1 ∈ wsX8_looksOfEach := by decide +kernel
theorem hi_X8_looksOfEach_X8 : ∀ w ∈ u_ws RX8 TX8 20, w ∈ wsX8_looksOfEach := by decide +kernel
theorem fl10_X8_looksOfEach : Cond.fieldLink RX8 10 RX8 (TX8 0).2.1 (TX8 0).2.2.1 ∈ wsX8_looksOfEach := by decide +kernel
theorem hi_X8_looksOfEach_X0 : ∀ w ∈ u_ws RX0 TX0 5, w ∈ wsX8_looksOfEach := by decide +kernel
theorem mx204_X8_looksOfEach : Cond.methodLink RX8 204 Lib.Math.min.name ∈ wsX8_looksOfEach ∧ Cond.static Lib.Math.min.name ∈ wsX8_looksOfEach ∧ Cond.initialized "java/lang/Math" ∈ wsX8_looksOfEach ∧ Cond.code Lib.Math.min.name Lib.Math.min.code 2 (some .int) ∈ wsX8_looksOfEach := by decide +kernel
theorem fl10_X8_found : Cond.fieldLink RX8 10 RX8 (TX8 0).2.1 (TX8 0).2.2.1 ∈ wsX8_found := by decide +kernel
theorem hi_X8_found_X8 : ∀ w ∈ u_ws RX8 TX8 20, w ∈ wsX8_found := by decide +kernel
theorem hi_X8_noteRun_X0 : ∀ w ∈ u_ws RX0 TX0 5, w ∈ wsX8_noteRun := by decide +kernel
theorem fl81_X8_noteRun : Cond.fieldLink RX8 81 RX8 (TX8 17).2.1 (TX8 17).2.2.1 ∈ wsX8_noteRun := by decide +kernel
theorem hi_X8_noteRun_X8 : ∀ w ∈ u_ws RX8 TX8 20, w ∈ wsX8_noteRun := by decide +kernel
theorem hi_X8_goHome_X0 : ∀ w ∈ u_ws RX0 TX0 5, w ∈ wsX8_goHome := by decide +kernel
theorem mx204_X8_goHome : Cond.methodLink RX8 204 Lib.Math.min.name ∈ wsX8_goHome ∧ Cond.static Lib.Math.min.name ∈ wsX8_goHome ∧ Cond.initialized "java/lang/Math" ∈ wsX8_goHome ∧ Cond.code Lib.Math.min.name Lib.Math.min.code 2 (some .int) ∈ wsX8_goHome := by decide +kernel
theorem mx213_X8_goHome : Cond.methodLink RX8 213 Lib.Math.max.name ∈ wsX8_goHome ∧ Cond.static Lib.Math.max.name ∈ wsX8_goHome ∧ Cond.initialized "java/lang/Math" ∈ wsX8_goHome ∧ Cond.code Lib.Math.max.name Lib.Math.max.code 2 (some .int) ∈ wsX8_goHome := by decide +kernel
theorem fl10_X8_run : Cond.fieldLink RX8 10 RX8 (TX8 0).2.1 (TX8 0).2.2.1 ∈ wsX8_run := by decide +kernel
theorem hi_X8_run_X8 : ∀ w ∈ u_ws RX8 TX8 20, w ∈ wsX8_run := by decide +kernel
theorem fl81_X8_run : Cond.fieldLink RX8 81 RX8 (TX8 17).2.1 (TX8 17).2.2.1 ∈ wsX8_run := by decide +kernel
theorem fl85_X8_waysClosed : Cond.fieldLink RX8 85 RX8 (TX8 18).2.1 (TX8 18).2.2.1 ∈ wsX8_waysClosed := by decide +kernel
theorem hi_X8_waysClosed_X8 : ∀ w ∈ u_ws RX8 TX8 20, w ∈ wsX8_waysClosed := by decide +kernel
theorem lc219_X8_closed : Jvm.Cond.constantLong RX8 219 (-4611686018427387904) ∈ wsX8_closed := by decide +kernel
theorem fl10_X8_hasTooManyLayings : Cond.fieldLink RX8 10 RX8 (TX8 0).2.1 (TX8 0).2.2.1 ∈ wsX8_hasTooManyLayings := by decide +kernel
theorem hi_X8_hasTooManyLayings_X8 : ∀ w ∈ u_ws RX8 TX8 20, w ∈ wsX8_hasTooManyLayings := by decide +kernel
theorem hi_X8_hasTooManyLayings_X0 : ∀ w ∈ u_ws RX0 TX0 5, w ∈ wsX8_hasTooManyLayings := by decide +kernel
theorem hi_X8_tallyOf_X1 : ∀ w ∈ u_ws RX1 TX1 3, w ∈ wsX8_tallyOf := by decide +kernel
theorem fl10_X8_tallyOf : Cond.fieldLink RX8 10 RX8 (TX8 0).2.1 (TX8 0).2.2.1 ∈ wsX8_tallyOf := by decide +kernel
theorem hi_X8_tallyOf_X8 : ∀ w ∈ u_ws RX8 TX8 20, w ∈ wsX8_tallyOf := by decide +kernel
theorem hi_X8_tallyOf_X0 : ∀ w ∈ u_ws RX0 TX0 5, w ∈ wsX8_tallyOf := by decide +kernel
theorem fl16_X8_tallyOf : Cond.fieldLink RX8 16 RX8 (TX8 1).2.1 (TX8 1).2.2.1 ∈ wsX8_tallyOf := by decide +kernel
theorem fl20_X8_tallyOf : Cond.fieldLink RX8 20 RX8 (TX8 2).2.1 (TX8 2).2.2.1 ∈ wsX8_tallyOf := by decide +kernel
theorem fl78_X8_tallyOf : Cond.fieldLink RX8 78 RX8 (TX8 16).2.1 (TX8 16).2.2.1 ∈ wsX8_tallyOf := by decide +kernel
abbrev rmX8_boxes : Room := { frames := 2, cells := 0, slots := 0, locals := 52 }
def c_X8_boxes (p1 : Int32) (σ : HS) : Option (Int32 × HS) := (if p1 < 1 then (some ((-2), σ)) else (if p1 ≤ 12 then (bi1 (c_X0_layOwn 1 p1 σ) (fun s4 => (some ((gI σ 1 1), s4)))) else (some ((-2), σ))))
set_option maxHeartbeats 4000000 in
set_option maxRecDepth 100000 in
theorem w_X8_boxes {adK adV : Nat → Nat} {tb : Nat} {p : Program} {l : Launch} {e : Env} {s : State} {m : MethodId} {args : Array Value} {below : List Frame} {meth : Method} {c : Code} {A : Nat → Prop} {G : WD}  {r0 : Int32} {τ : HS} {p1 : Int32} {σ : HS}  (hG : GX G xY) (hO0 : Ob G xY 0 7) (hC : Cx (xE adK adV tb) G.1 G.2.1 xY cX8_boxes 3 (some .int) RX8 wsX8_boxes p s m args meth c A) (h : c_X8_boxes p1 σ = some (r0, τ)) : V p l e rmX8_boxes s m args below meth c 3 A G xY 0 0 (MQ below (QI G xY A r0 τ) args s 0 0 A) σ 0 [(0, .ref (G.2.2.1 0)), (1, .int p1)] [] := by
  rw [c_X8_boxes] at h
  refine v_iload_n hC dX8_boxes_0 1 rfl ?_
  refine v_iconst (v := 1) hC dX8_boxes_1 (by decide) ?_
  refine v_icmp_lt (tgt := 11) hC dX8_boxes_2 (by decide) (fun c_1 => ?_) (fun c_1 => ?_)
  · replace h := ift c_1 h
    refine v_bipush (v := (-2)) hC dX8_boxes_11 (by decide) ?_
    exact v_iret hC rfl dX8_boxes_13 h
  · replace h := ifn c_1 h
    refine v_iload_n hC dX8_boxes_5 1 rfl ?_
    refine v_bipush (v := 12) hC dX8_boxes_6 (by decide) ?_
    refine v_icmp_le (tgt := 14) hC dX8_boxes_8 (by decide) (fun c_2 => ?_) (fun c_2 => ?_)
    · replace h := ift c_2 h
      refine v_aload_n hC dX8_boxes_14 0 rfl ?_
      refine v_get (C := RX8) (T := TX8) (N := 20) (ci := 7) (k := 0) (v := .ref (G.2.2.1 1)) hC hO0 hi_X8_boxes_X8 rfl (by decide) (by decide) rfl rfl fl10_X8_boxes dX8_boxes_15 rfl ?_
      refine v_getN (C := RX0) (T := TX0) (N := 5) (ci := 0) (k := 1) (v := .int (gI σ 1 1)) hC (obX_7_0 hG hO0) hi_X8_boxes_X0 rfl (by decide) (by decide) rfl rfl (xE_nf_X8_124 hC.2.2.2.2.2) dX8_boxes_18 rfl ?_
      refine v_istore_n (L' := [(0, .ref (G.2.2.1 0)), (1, .int p1), (2, .int (gI σ 1 1))]) hC dX8_boxes_21 (by decide) [1, 2, 0] rfl ?_
      refine v_aload_n hC dX8_boxes_22 0 rfl ?_
      refine v_get (C := RX8) (T := TX8) (N := 20) (ci := 7) (k := 0) (v := .ref (G.2.2.1 1)) hC hO0 hi_X8_boxes_X8 rfl (by decide) (by decide) rfl rfl fl10_X8_boxes dX8_boxes_23 rfl ?_
      refine v_iload_n hC dX8_boxes_26 1 rfl ?_
      obtain ⟨s4, hc_3, h⟩ := bd1 h
      refine v_callVV hC xE_ok (n := 1) (As := [.int p1]) (k_X0_layOwn l hG ((obX_7_0 hG hO0)) hc_3) (cwV 1 hC.1.2.2.2.2 gX8_boxes_X0_layOwn rfl rfl rfl (by decide +kernel) ⟨(Nat.le_of_ble_eq_true rfl), (Nat.le_of_ble_eq_true rfl)⟩) (obX_7_0 hG hO0) (by decide) rfl rfl rfl (Nat.le_of_ble_eq_true rfl) ⟨Nat.zero_le _, Nat.zero_le _⟩ dX8_boxes_27 rfl ?_
      refine v_iload_n hC dX8_boxes_30 2 rfl ?_
      exact v_iret hC rfl dX8_boxes_31 h
    · replace h := ifn c_2 h
      refine v_bipush (v := (-2)) hC dX8_boxes_11 (by decide) ?_
      exact v_iret hC rfl dX8_boxes_13 h
theorem k_X8_boxes {adK adV : Nat → Nat} {tb : Nat} (l : Launch) {G : WD}  {r0 : Int32} {τ : HS} {p1 : Int32} {σ : HS}  (hG : GX G xY) (hO0 : Ob G xY 0 7) (h : c_X8_boxes p1 σ = some (r0, τ)) : MI (xE adK adV tb) l yX8_boxes wsX8_boxes rmX8_boxes G xY [.ref (G.2.2.1 0), .int p1] σ r0 τ :=
  MI.of RX8 (by decide) rfl rfl (Nat.le_of_ble_eq_true rfl) rfl rfl (fun p e s m below meth c hC => w_X8_boxes  hG hO0 hC h)
abbrev rmX8_looks : Room := { frames := 0, cells := 0, slots := 0, locals := 0 }
def c_X8_looks (p1 : Int32) (σ : HS) : Option (Int32 × HS) := (if p1 < 1 then (some ((-2), σ)) else (if p1 ≤ 12 then (lt (sI σ 0 1 p1) (fun s3 => (some ((gI σ 0 1), s3)))) else (some ((-2), σ))))
set_option maxHeartbeats 4000000 in
set_option maxRecDepth 100000 in
theorem w_X8_looks {adK adV : Nat → Nat} {tb : Nat} {p : Program} {l : Launch} {e : Env} {s : State} {m : MethodId} {args : Array Value} {below : List Frame} {meth : Method} {c : Code} {A : Nat → Prop} {G : WD}  {r0 : Int32} {τ : HS} {p1 : Int32} {σ : HS}  (hG : GX G xY) (hO0 : Ob G xY 0 7) (hC : Cx (xE adK adV tb) G.1 G.2.1 xY cX8_looks 3 (some .int) RX8 wsX8_looks p s m args meth c A) (h : c_X8_looks p1 σ = some (r0, τ)) : V p l e rmX8_looks s m args below meth c 3 A G xY 0 0 (MQ below (QI G xY A r0 τ) args s 0 0 A) σ 0 [(0, .ref (G.2.2.1 0)), (1, .int p1)] [] := by
  rw [c_X8_looks] at h
  refine v_iload_n hC dX8_looks_0 1 rfl ?_
  refine v_iconst (v := 1) hC dX8_looks_1 (by decide) ?_
  refine v_icmp_lt (tgt := 11) hC dX8_looks_2 (by decide) (fun c_1 => ?_) (fun c_1 => ?_)
  · replace h := ift c_1 h
    refine v_bipush (v := (-2)) hC dX8_looks_11 (by decide) ?_
    exact v_iret hC rfl dX8_looks_13 h
  · replace h := ifn c_1 h
    refine v_iload_n hC dX8_looks_5 1 rfl ?_
    refine v_bipush (v := 12) hC dX8_looks_6 (by decide) ?_
    refine v_icmp_le (tgt := 14) hC dX8_looks_8 (by decide) (fun c_2 => ?_) (fun c_2 => ?_)
    · replace h := ift c_2 h
      refine v_aload_n hC dX8_looks_14 0 rfl ?_
      refine v_get (C := RX8) (T := TX8) (N := 20) (ci := 7) (k := 1) (v := .int (gI σ 0 1)) hC hO0 hi_X8_looks_X8 rfl (by decide) (by decide) rfl rfl fl16_X8_looks dX8_looks_15 rfl ?_
      refine v_istore_n (L' := [(0, .ref (G.2.2.1 0)), (1, .int p1), (2, .int (gI σ 0 1))]) hC dX8_looks_18 (by decide) [1, 2, 0] rfl ?_
      refine v_aload_n hC dX8_looks_19 0 rfl ?_
      refine v_iload_n hC dX8_looks_20 1 rfl ?_
      refine v_putI (C := RX8) (T := TX8) (N := 20) (ci := 7) (k := 1) (ty := .int) hC hO0 hi_X8_looks_X8 rfl (by decide) (by decide) rfl rfl tyX8_ok nmX8 fl16_X8_looks rfl rfl rfl rfl rfl dX8_looks_21 ?_
      obtain ⟨s3, e4, h⟩ := ld h
      refine V.eq e4 ?_
      refine v_iload_n hC dX8_looks_24 2 rfl ?_
      exact v_iret hC rfl dX8_looks_25 h
    · replace h := ifn c_2 h
      refine v_bipush (v := (-2)) hC dX8_looks_11 (by decide) ?_
      exact v_iret hC rfl dX8_looks_13 h
theorem k_X8_looks {adK adV : Nat → Nat} {tb : Nat} (l : Launch) {G : WD}  {r0 : Int32} {τ : HS} {p1 : Int32} {σ : HS}  (hG : GX G xY) (hO0 : Ob G xY 0 7) (h : c_X8_looks p1 σ = some (r0, τ)) : MI (xE adK adV tb) l yX8_looks wsX8_looks rmX8_looks G xY [.ref (G.2.2.1 0), .int p1] σ r0 τ :=
  MI.of RX8 (by decide) rfl rfl (Nat.le_of_ble_eq_true rfl) rfl rfl (fun p e s m below meth c hC => w_X8_looks  hG hO0 hC h)
abbrev rmX8_sheetAt : Room := { frames := 0, cells := 0, slots := 0, locals := 0 }
def c_X8_sheetAt (p1 : Int32) (σ : HS) : Option (Option Nat × HS) := (if p1 < 0 then (some (none, σ)) else (if 4 ≤ p1 then (some (none, σ)) else (if inb p1 4 = true then (some ((gR σ 15 (ix p1)), σ)) else none)))
set_option maxHeartbeats 4000000 in
set_option maxRecDepth 100000 in
theorem w_X8_sheetAt {adK adV : Nat → Nat} {tb : Nat} {p : Program} {l : Launch} {e : Env} {s : State} {m : MethodId} {args : Array Value} {below : List Frame} {meth : Method} {c : Code} {A : Nat → Prop} {G : WD}  {r0 : Option Nat} {τ : HS} {p1 : Int32} {σ : HS}  (hG : GX G xY) (hO0 : Ob G xY 0 7) (hC : Cx (xE adK adV tb) G.1 G.2.1 xY cX8_sheetAt 2 (some (.object "HundredBoxes$Sheet")) RX8 wsX8_sheetAt p s m args meth c A) (h : c_X8_sheetAt p1 σ = some (r0, τ)) : V p l e rmX8_sheetAt s m args below meth c 2 A G xY 0 0 (MQ below (QR G xY A r0 τ) args s 0 0 A) σ 0 [(0, .ref (G.2.2.1 0)), (1, .int p1)] [] := by
  rw [c_X8_sheetAt] at h
  refine v_iload_n hC dX8_sheetAt_0 1 rfl ?_
  refine v_if_lt (tgt := 18) hC dX8_sheetAt_1 (by decide) (fun c_1 => ?_) (fun c_1 => ?_)
  · replace h := ift c_1 h
    refine v_null hC dX8_sheetAt_18 ?_
    exact v_aret (o := none) hC rfl (Or.inl ⟨_, rfl⟩) dX8_sheetAt_19 h
  · replace h := ifn c_1 h
    refine v_iload_n hC dX8_sheetAt_4 1 rfl ?_
    refine v_iconst (v := 4) hC dX8_sheetAt_5 (by decide) ?_
    refine v_icmp_ge (tgt := 18) hC dX8_sheetAt_6 (by decide) (fun c_2 => ?_) (fun c_2 => ?_)
    · replace h := ift c_2 h
      refine v_null hC dX8_sheetAt_18 ?_
      exact v_aret (o := none) hC rfl (Or.inl ⟨_, rfl⟩) dX8_sheetAt_19 h
    · replace h := ifn c_2 h
      refine v_aload_n hC dX8_sheetAt_9 0 rfl ?_
      refine v_get (C := RX8) (T := TX8) (N := 20) (ci := 7) (k := 15) (v := .ref (G.2.2.1 15)) hC hO0 hi_X8_sheetAt_X8 rfl (by decide) (by decide) rfl rfl fl74_X8_sheetAt dX8_sheetAt_10 rfl ?_
      refine v_iload_n hC dX8_sheetAt_13 1 rfl ?_
      obtain ⟨g_3, h⟩ := gd h
      refine v_wt (fun hw_4 => ?_)
      refine v_aald hC (obX_7_15 hG hO0).1 (by decide) (obX_7_15 hG hO0).2 (t0 := 3) rfl g_3 dX8_sheetAt_14 ?_
      refine v_goto (tgt := 19) hC dX8_sheetAt_15 (by decide) ?_
      exact v_aret (o := (gR σ 15 (ix p1))) hC rfl (Or.inl ⟨_, rfl⟩) dX8_sheetAt_19 h
theorem k_X8_sheetAt {adK adV : Nat → Nat} {tb : Nat} (l : Launch) {G : WD}  {r0 : Option Nat} {τ : HS} {p1 : Int32} {σ : HS}  (hG : GX G xY) (hO0 : Ob G xY 0 7) (h : c_X8_sheetAt p1 σ = some (r0, τ)) : MR (xE adK adV tb) l yX8_sheetAt wsX8_sheetAt rmX8_sheetAt G xY [.ref (G.2.2.1 0), .int p1] σ r0 τ :=
  MR.of RX8 (by decide) rfl rfl (Nat.le_of_ble_eq_true rfl) rfl rfl (fun p e s m below meth c hC => w_X8_sheetAt  hG hO0 hC h)
theorem rok_sheetAt {G : WD} {p1 : Int32} {σ s : HS} {r : Option Nat} (hG : GX G xY) (hO0 : Ob G xY 0 7) (hv : wt G xY s) (hc : c_X8_sheetAt p1 σ = some (r, s)) : ∀ j, r = some j → Ob G xY j 3 := by
  intro j hj
  subst hj
  rw [c_X8_sheetAt] at hc
  split at hc
  · cases hc
  split at hc
  · cases hc
  obtain ⟨g, hc⟩ := gd hc
  simp only [Option.some.injEq, Prod.mk.injEq] at hc
  obtain ⟨h1, h2⟩ := hc
  subst h2
  exact wt_ob hv (obX_7_15 hG hO0).1 h1

abbrev rmX8_holdsLaying : Room := { frames := 2, cells := 0, slots := 0, locals := 42 }
def c_X8_holdsLaying_55 (k4 : Int32 → Int32 → HS → Option (Int32 × HS)) (i0 : Nat) (x1 : Int32) (x2 : Int32) (σ : HS) : Option (Int32 × HS) := (k4 x1 (x2 + 1) σ)
set_option maxHeartbeats 4000000 in
set_option maxRecDepth 100000 in
theorem w_X8_holdsLaying_55 {adK adV : Nat → Nat} {tb : Nat} {p : Program} {l : Launch} {e : Env} {s : State} {m : MethodId} {args : Array Value} {below : List Frame} {meth : Method} {c : Code} {A : Nat → Prop} {G : WD}  {r0 : Int32} {τ : HS} {i0 : Nat} {k4 : Int32 → Int32 → HS → Option (Int32 × HS)} {x1 : Int32} {x2 : Int32} {σ : HS}  (hG : GX G xY) (hO0 : Ob G xY i0 3) (hC : Cx (xE adK adV tb) G.1 G.2.1 xY cX8_holdsLaying 4 (some .boolean) RX8 wsX8_holdsLaying p s m args meth c A) (hk4 : ∀ (x1 : Int32) (x2 : Int32) (σ : HS), k4 x1 x2 σ = some (r0, τ) → V p l e rmX8_holdsLaying s m args below meth c 4 A G xY 0 0 (MQ below (QI G xY A r0 τ) args s 0 0 A) σ 4 [(0, .ref (G.2.2.1 i0)), (1, .int x1), (2, .int x2)] []) (h : c_X8_holdsLaying_55 k4 i0 x1 x2 σ = some (r0, τ)) : V p l e rmX8_holdsLaying s m args below meth c 4 A G xY 0 0 (MQ below (QI G xY A r0 τ) args s 0 0 A) σ 55 [(0, .ref (G.2.2.1 i0)), (1, .int x1), (2, .int x2)] [] := by
  rw [c_X8_holdsLaying_55] at h
  refine v_iinc (v := (x2 + 1)) (L' := [(0, .ref (G.2.2.1 i0)), (1, .int x1), (2, .int (x2 + 1))]) hC dX8_holdsLaying_55 2 rfl rfl (by decide) [1, 2, 0] rfl ?_
  refine v_goto (tgt := 4) hC dX8_holdsLaying_58 (by decide) ?_
  exact hk4 _ _ _ h
def c_X8_holdsLaying_4 : Nat → Nat → Int32 → Int32 → HS → Option (Int32 × HS)
  | 0, _, _, _, _ => none
  | n + 1, i0, x1, x2, σ => (if (gI σ i0 2) ≤ x2 then (some (1, σ)) else (bi2 (c_X3_at i0 x2 σ) (fun r4 s3 => (if r4 < (-1) then (some (0, s3)) else (if r4 < (gI s3 i0 2) then (if r4 = (-1) then (c_X8_holdsLaying_55 (fun z0 z1 z2 => c_X8_holdsLaying_4 n i0 z0 z1 z2) i0 x1 x2 s3) else (if ((x1 >>> (r4 &&& 31)) &&& 1) = 1 then (some (0, s3)) else (c_X8_holdsLaying_55 (fun z0 z1 z2 => c_X8_holdsLaying_4 n i0 z0 z1 z2) i0 (x1 ||| (1 <<< (r4 &&& 31))) x2 s3))) else (some (0, s3)))))))
set_option maxHeartbeats 4000000 in
set_option maxRecDepth 100000 in
theorem w_X8_holdsLaying_4 {adK adV : Nat → Nat} {tb : Nat} {p : Program} {l : Launch} {e : Env} {s : State} {m : MethodId} {args : Array Value} {below : List Frame} {meth : Method} {c : Code} {A : Nat → Prop} {G : WD}  {r0 : Int32} {τ : HS} {i0 : Nat}  (hG : GX G xY) (hO0 : Ob G xY i0 3) (hC : Cx (xE adK adV tb) G.1 G.2.1 xY cX8_holdsLaying 4 (some .boolean) RX8 wsX8_holdsLaying p s m args meth c A)  : ∀ (n : Nat) (x1 : Int32) (x2 : Int32) (σ : HS), c_X8_holdsLaying_4 n i0 x1 x2 σ = some (r0, τ) → V p l e rmX8_holdsLaying s m args below meth c 4 A G xY 0 0 (MQ below (QI G xY A r0 τ) args s 0 0 A) σ 4 [(0, .ref (G.2.2.1 i0)), (1, .int x1), (2, .int x2)] [] := by
  intro n
  induction n with
  | zero => intro x1 x2 σ h; exact nof h
  | succ n ih =>
    intro x1 x2 σ h
    rw [c_X8_holdsLaying_4] at h
    refine v_iload_n hC dX8_holdsLaying_4 2 rfl ?_
    refine v_aload_n hC dX8_holdsLaying_5 0 rfl ?_
    refine v_getN (C := RX3) (T := TX3) (N := 3) (ci := 3) (k := 2) (v := .int (gI σ i0 2)) hC hO0 hi_X8_holdsLaying_X3 rfl (by decide) (by decide) rfl rfl (xE_nf_X8_135 hC.2.2.2.2.2) dX8_holdsLaying_6 rfl ?_
    refine v_icmp_ge (tgt := 61) hC dX8_holdsLaying_9 (by decide) (fun c_1 => ?_) (fun c_1 => ?_)
    · replace h := ift c_1 h
      refine v_iconst (v := 1) hC dX8_holdsLaying_61 (by decide) ?_
      exact v_zret hC rfl rfl dX8_holdsLaying_62 h
    · replace h := ifn c_1 h
      refine v_aload_n hC dX8_holdsLaying_12 0 rfl ?_
      refine v_iload_n hC dX8_holdsLaying_13 2 rfl ?_
      obtain ⟨r4, s3, hc_2, h⟩ := bd2 h
      refine v_callVI hC xE_ok (n := 1) (As := [.int x2]) (k_X3_at l hG (hO0) hc_2) (cwV 1 hC.1.2.2.2.2 gX8_holdsLaying_X3_at rfl rfl rfl (by decide +kernel) ⟨(Nat.le_of_ble_eq_true rfl), (Nat.le_of_ble_eq_true rfl)⟩) hO0 (by decide) rfl rfl rfl (Nat.le_of_ble_eq_true rfl) ⟨Nat.zero_le _, Nat.zero_le _⟩ dX8_holdsLaying_14 rfl ?_
      refine v_istore_n (L' := [(0, .ref (G.2.2.1 i0)), (1, .int x1), (2, .int x2), (3, .int r4)]) hC dX8_holdsLaying_17 (by decide) [1, 2, 3, 0] rfl ?_
      refine v_iload_n hC dX8_holdsLaying_18 3 rfl ?_
      refine v_iconst (v := (-1)) hC dX8_holdsLaying_19 (by decide) ?_
      refine v_icmp_lt (tgt := 31) hC dX8_holdsLaying_20 (by decide) (fun c_5 => ?_) (fun c_5 => ?_)
      · replace h := ift c_5 h
        refine v_iconst (v := 0) hC dX8_holdsLaying_31 (by decide) ?_
        exact v_zret hC rfl rfl dX8_holdsLaying_32 h
      · replace h := ifn c_5 h
        refine v_iload_n hC dX8_holdsLaying_23 3 rfl ?_
        refine v_aload_n hC dX8_holdsLaying_24 0 rfl ?_
        refine v_getN (C := RX3) (T := TX3) (N := 3) (ci := 3) (k := 2) (v := .int (gI s3 i0 2)) hC hO0 hi_X8_holdsLaying_X3 rfl (by decide) (by decide) rfl rfl (xE_nf_X8_135 hC.2.2.2.2.2) dX8_holdsLaying_25 rfl ?_
        refine v_icmp_lt (tgt := 33) hC dX8_holdsLaying_28 (by decide) (fun c_6 => ?_) (fun c_6 => ?_)
        · replace h := ift c_6 h
          refine v_iload_n hC dX8_holdsLaying_33 3 rfl ?_
          refine v_iconst (v := (-1)) hC dX8_holdsLaying_34 (by decide) ?_
          refine v_icmp_eq (tgt := 55) hC dX8_holdsLaying_35 (by decide) (fun c_7 => ?_) (fun c_7 => ?_)
          · replace h := ift c_7 h
            refine V.sub (L' := [(0, .ref (G.2.2.1 i0)), (1, .int x1), (2, .int x2)]) [0, 1, 2] rfl ?_
            exact w_X8_holdsLaying_55 hG (hO0) hC (fun _ _ _ h => ih _ _ _ h) h
          · replace h := ifn c_7 h
            refine v_iload_n hC dX8_holdsLaying_38 1 rfl ?_
            refine v_iload_n hC dX8_holdsLaying_39 3 rfl ?_
            refine v_ishr hC dX8_holdsLaying_40 ?_
            refine v_iconst (v := 1) hC dX8_holdsLaying_41 (by decide) ?_
            refine v_iand hC dX8_holdsLaying_42 ?_
            refine v_iconst (v := 1) hC dX8_holdsLaying_43 (by decide) ?_
            refine v_icmp_ne (tgt := 49) hC dX8_holdsLaying_44 (by decide) (fun c_8 => ?_) (fun c_8 => ?_)
            · replace h := ifn c_8 h
              refine v_iload_n hC dX8_holdsLaying_49 1 rfl ?_
              refine v_iconst (v := 1) hC dX8_holdsLaying_50 (by decide) ?_
              refine v_iload_n hC dX8_holdsLaying_51 3 rfl ?_
              refine v_ishl hC dX8_holdsLaying_52 ?_
              refine v_ior hC dX8_holdsLaying_53 ?_
              refine v_istore_n (L' := [(0, .ref (G.2.2.1 i0)), (1, .int (x1 ||| (1 <<< (r4 &&& 31)))), (2, .int x2)]) hC dX8_holdsLaying_54 (by decide) [1, 0, 2] rfl ?_
              exact w_X8_holdsLaying_55 hG (hO0) hC (fun _ _ _ h => ih _ _ _ h) h
            · replace h := ift c_8 h
              refine v_iconst (v := 0) hC dX8_holdsLaying_47 (by decide) ?_
              exact v_zret hC rfl rfl dX8_holdsLaying_48 h
        · replace h := ifn c_6 h
          refine v_iconst (v := 0) hC dX8_holdsLaying_31 (by decide) ?_
          exact v_zret hC rfl rfl dX8_holdsLaying_32 h
def c_X8_holdsLaying (i0 : Nat) (σ : HS) : Option (Int32 × HS) := (c_X8_holdsLaying_4 FU i0 0 0 σ)
set_option maxHeartbeats 4000000 in
set_option maxRecDepth 100000 in
theorem w_X8_holdsLaying {adK adV : Nat → Nat} {tb : Nat} {p : Program} {l : Launch} {e : Env} {s : State} {m : MethodId} {args : Array Value} {below : List Frame} {meth : Method} {c : Code} {A : Nat → Prop} {G : WD}  {r0 : Int32} {τ : HS} {i0 : Nat} {σ : HS}  (hG : GX G xY) (hO0 : Ob G xY i0 3) (hC : Cx (xE adK adV tb) G.1 G.2.1 xY cX8_holdsLaying 4 (some .boolean) RX8 wsX8_holdsLaying p s m args meth c A) (h : c_X8_holdsLaying i0 σ = some (r0, τ)) : V p l e rmX8_holdsLaying s m args below meth c 4 A G xY 0 0 (MQ below (QI G xY A r0 τ) args s 0 0 A) σ 0 [(0, .ref (G.2.2.1 i0))] [] := by
  rw [c_X8_holdsLaying] at h
  refine v_iconst (v := 0) hC dX8_holdsLaying_0 (by decide) ?_
  refine v_istore_n (L' := [(0, .ref (G.2.2.1 i0)), (1, .int 0)]) hC dX8_holdsLaying_1 (by decide) [1, 0] rfl ?_
  refine v_iconst (v := 0) hC dX8_holdsLaying_2 (by decide) ?_
  refine v_istore_n (L' := [(0, .ref (G.2.2.1 i0)), (1, .int 0), (2, .int 0)]) hC dX8_holdsLaying_3 (by decide) [1, 2, 0] rfl ?_
  exact w_X8_holdsLaying_4 hG (hO0) hC FU _ _ _ h
theorem k_X8_holdsLaying {adK adV : Nat → Nat} {tb : Nat} (l : Launch) {G : WD}  {r0 : Int32} {τ : HS} {i0 : Nat} {σ : HS}  (hG : GX G xY) (hO0 : Ob G xY i0 3) (h : c_X8_holdsLaying i0 σ = some (r0, τ)) : MI (xE adK adV tb) l yX8_holdsLaying wsX8_holdsLaying rmX8_holdsLaying G xY [.ref (G.2.2.1 i0)] σ r0 τ :=
  MI.of RX8 (by decide) rfl rfl (Nat.le_of_ble_eq_true rfl) rfl rfl (fun p e s m below meth c hC => w_X8_holdsLaying  hG hO0 hC h)
abbrev rmX8_lay : Room := { frames := 3, cells := 0, slots := 0, locals := 65 }
def c_X8_lay_92 (k52 : Int32 → Int32 → HS → Option (Int32 × HS)) (i2 : Nat) (x3 : Int32) (x4 : Int32) (σ : HS) : Option (Int32 × HS) := (k52 x3 (x4 + 1) σ)
set_option maxHeartbeats 4000000 in
set_option maxRecDepth 100000 in
theorem w_X8_lay_92 {adK adV : Nat → Nat} {tb : Nat} {p : Program} {l : Launch} {e : Env} {s : State} {m : MethodId} {args : Array Value} {below : List Frame} {meth : Method} {c : Code} {A : Nat → Prop} {G : WD}  {r0 : Int32} {τ : HS} {i2 : Nat} {k52 : Int32 → Int32 → HS → Option (Int32 × HS)} {x3 : Int32} {x4 : Int32} {σ : HS}  (hG : GX G xY) (hO0 : Ob G xY 0 7) (hO2 : Ob G xY i2 3) (hC : Cx (xE adK adV tb) G.1 G.2.1 xY cX8_lay 5 (some .int) RX8 wsX8_lay p s m args meth c A) (hk52 : ∀ (x3 : Int32) (x4 : Int32) (σ : HS), k52 x3 x4 σ = some (r0, τ) → V p l e rmX8_lay s m args below meth c 5 A G xY 0 0 (MQ below (QI G xY A r0 τ) args s 0 0 A) σ 52 [(0, .ref (G.2.2.1 0)), (2, .ref (G.2.2.1 i2)), (3, .int x3), (4, .int x4)] []) (h : c_X8_lay_92 k52 i2 x3 x4 σ = some (r0, τ)) : V p l e rmX8_lay s m args below meth c 5 A G xY 0 0 (MQ below (QI G xY A r0 τ) args s 0 0 A) σ 92 [(0, .ref (G.2.2.1 0)), (2, .ref (G.2.2.1 i2)), (3, .int x3), (4, .int x4)] [] := by
  rw [c_X8_lay_92] at h
  refine v_iinc (v := (x4 + 1)) (L' := [(0, .ref (G.2.2.1 0)), (2, .ref (G.2.2.1 i2)), (3, .int x3), (4, .int (x4 + 1))]) hC dX8_lay_92 3 rfl rfl (by decide) [1, 2, 3, 0] rfl ?_
  refine v_goto (tgt := 52) hC dX8_lay_95 (by decide) ?_
  exact hk52 _ _ _ h
def c_X8_lay_52 : Nat → Nat → Int32 → Int32 → HS → Option (Int32 × HS)
  | 0, _, _, _, _ => none
  | n + 1, i2, x3, x4, σ => (if (gI σ 1 1) ≤ x4 then (some (x3, σ)) else (bi2 (c_X3_at i2 x4 σ) (fun r18 s17 => (bi1 (c_X0_put 1 x4 r18 s17) (fun s20 => (bi2 (c_X3_at i2 x4 s20) (fun r23 s22 => (if r23 = (-1) then (c_X8_lay_92 (fun z0 z1 z2 => c_X8_lay_52 n i2 z0 z1 z2) i2 x3 x4 s22) else (c_X8_lay_92 (fun z0 z1 z2 => c_X8_lay_52 n i2 z0 z1 z2) i2 (x3 + 1) x4 s22)))))))))
set_option maxHeartbeats 4000000 in
set_option maxRecDepth 100000 in
theorem w_X8_lay_52 {adK adV : Nat → Nat} {tb : Nat} {p : Program} {l : Launch} {e : Env} {s : State} {m : MethodId} {args : Array Value} {below : List Frame} {meth : Method} {c : Code} {A : Nat → Prop} {G : WD}  {r0 : Int32} {τ : HS} {i2 : Nat}  (hG : GX G xY) (hO0 : Ob G xY 0 7) (hO2 : Ob G xY i2 3) (hC : Cx (xE adK adV tb) G.1 G.2.1 xY cX8_lay 5 (some .int) RX8 wsX8_lay p s m args meth c A)  : ∀ (n : Nat) (x3 : Int32) (x4 : Int32) (σ : HS), c_X8_lay_52 n i2 x3 x4 σ = some (r0, τ) → V p l e rmX8_lay s m args below meth c 5 A G xY 0 0 (MQ below (QI G xY A r0 τ) args s 0 0 A) σ 52 [(0, .ref (G.2.2.1 0)), (2, .ref (G.2.2.1 i2)), (3, .int x3), (4, .int x4)] [] := by
  intro n
  induction n with
  | zero => intro x3 x4 σ h; exact nof h
  | succ n ih =>
    intro x3 x4 σ h
    rw [c_X8_lay_52] at h
    refine v_iload hC dX8_lay_52 3 rfl ?_
    refine v_aload_n hC dX8_lay_54 0 rfl ?_
    refine v_get (C := RX8) (T := TX8) (N := 20) (ci := 7) (k := 0) (v := .ref (G.2.2.1 1)) hC hO0 hi_X8_lay_X8 rfl (by decide) (by decide) rfl rfl fl10_X8_lay dX8_lay_55 rfl ?_
    refine v_getN (C := RX0) (T := TX0) (N := 5) (ci := 0) (k := 1) (v := .int (gI σ 1 1)) hC (obX_7_0 hG hO0) hi_X8_lay_X0 rfl (by decide) (by decide) rfl rfl (xE_nf_X8_124 hC.2.2.2.2.2) dX8_lay_58 rfl ?_
    refine v_icmp_ge (tgt := 98) hC dX8_lay_61 (by decide) (fun c_15 => ?_) (fun c_15 => ?_)
    · replace h := ift c_15 h
      refine v_iload_n hC dX8_lay_98 2 rfl ?_
      exact v_iret hC rfl dX8_lay_99 h
    · replace h := ifn c_15 h
      refine v_aload_n hC dX8_lay_64 0 rfl ?_
      refine v_get (C := RX8) (T := TX8) (N := 20) (ci := 7) (k := 0) (v := .ref (G.2.2.1 1)) hC hO0 hi_X8_lay_X8 rfl (by decide) (by decide) rfl rfl fl10_X8_lay dX8_lay_65 rfl ?_
      refine v_iload hC dX8_lay_68 3 rfl ?_
      refine v_aload_n hC dX8_lay_70 1 rfl ?_
      refine v_iload hC dX8_lay_71 3 rfl ?_
      obtain ⟨r18, s17, hc_16, h⟩ := bd2 h
      refine v_callVI hC xE_ok (n := 1) (As := [.int x4]) (k_X3_at l hG (hO2) hc_16) (cwV 1 hC.1.2.2.2.2 gX8_lay_X3_at rfl rfl rfl (by decide +kernel) ⟨(Nat.le_of_ble_eq_true rfl), (Nat.le_of_ble_eq_true rfl)⟩) hO2 (by decide) rfl rfl rfl (Nat.le_of_ble_eq_true rfl) ⟨Nat.zero_le _, Nat.zero_le _⟩ dX8_lay_73 rfl ?_
      obtain ⟨s20, hc_19, h⟩ := bd1 h
      refine v_callVV hC xE_ok (n := 2) (As := [.int x4, .int r18]) (k_X0_put l hG ((obX_7_0 hG hO0)) hc_19) (cwV 2 hC.1.2.2.2.2 gX8_lay_X0_put rfl rfl rfl (by decide +kernel) ⟨(Nat.le_of_ble_eq_true rfl), (Nat.le_of_ble_eq_true rfl)⟩) (obX_7_0 hG hO0) (by decide) rfl rfl rfl (Nat.le_of_ble_eq_true rfl) ⟨Nat.zero_le _, Nat.zero_le _⟩ dX8_lay_76 rfl ?_
      refine v_aload_n hC dX8_lay_79 1 rfl ?_
      refine v_iload hC dX8_lay_80 3 rfl ?_
      obtain ⟨r23, s22, hc_21, h⟩ := bd2 h
      refine v_callVI hC xE_ok (n := 1) (As := [.int x4]) (k_X3_at l hG (hO2) hc_21) (cwV 1 hC.1.2.2.2.2 gX8_lay_X3_at rfl rfl rfl (by decide +kernel) ⟨(Nat.le_of_ble_eq_true rfl), (Nat.le_of_ble_eq_true rfl)⟩) hO2 (by decide) rfl rfl rfl (Nat.le_of_ble_eq_true rfl) ⟨Nat.zero_le _, Nat.zero_le _⟩ dX8_lay_82 rfl ?_
      refine v_iconst (v := (-1)) hC dX8_lay_85 (by decide) ?_
      refine v_icmp_eq (tgt := 92) hC dX8_lay_86 (by decide) (fun c_24 => ?_) (fun c_24 => ?_)
      · replace h := ift c_24 h
        exact w_X8_lay_92 hG (hO0) (hO2) hC (fun _ _ _ h => ih _ _ _ h) h
      · replace h := ifn c_24 h
        refine v_iinc (v := (x3 + 1)) (L' := [(0, .ref (G.2.2.1 0)), (2, .ref (G.2.2.1 i2)), (3, .int (x3 + 1)), (4, .int x4)]) hC dX8_lay_89 2 rfl rfl (by decide) [1, 2, 0, 3] rfl ?_
        exact w_X8_lay_92 hG (hO0) (hO2) hC (fun _ _ _ h => ih _ _ _ h) h
def c_X8_lay (p1 : Int32) (σ : HS) : Option (Int32 × HS) := (bi2 (c_X8_sheetAt p1 σ) (fun r3 s2 => (mo r3 (some ((-2), s2)) (fun j5 => (bi2 (c_X3_isMissing j5 s2) (fun r8 s7 => (if r8 = 0 then (if (gI s7 j5 2) = (gI s7 1 1) then (bi2 (c_X8_holdsLaying j5 s7) (fun r13 s12 => (if r13 = 0 then (some ((-2), s12)) else (c_X8_lay_52 FU j5 0 0 s12)))) else (some ((-2), s7))) else (some ((-11), s7)))))))))
set_option maxHeartbeats 4000000 in
set_option maxRecDepth 100000 in
theorem w_X8_lay {adK adV : Nat → Nat} {tb : Nat} {p : Program} {l : Launch} {e : Env} {s : State} {m : MethodId} {args : Array Value} {below : List Frame} {meth : Method} {c : Code} {A : Nat → Prop} {G : WD}  {r0 : Int32} {τ : HS} {p1 : Int32} {σ : HS}  (hG : GX G xY) (hO0 : Ob G xY 0 7) (hC : Cx (xE adK adV tb) G.1 G.2.1 xY cX8_lay 5 (some .int) RX8 wsX8_lay p s m args meth c A) (h : c_X8_lay p1 σ = some (r0, τ)) : V p l e rmX8_lay s m args below meth c 5 A G xY 0 0 (MQ below (QI G xY A r0 τ) args s 0 0 A) σ 0 [(0, .ref (G.2.2.1 0)), (1, .int p1)] [] := by
  rw [c_X8_lay] at h
  refine v_aload_n hC dX8_lay_0 0 rfl ?_
  refine v_iload_n hC dX8_lay_1 1 rfl ?_
  obtain ⟨r3, s2, hc_1, h⟩ := bd2 h
  refine v_callVR hC xE_ok (n := 1) (As := [.int p1]) (k_X8_sheetAt l hG (hO0) hc_1) (cwV 1 hC.1.2.2.2.2 gX8_lay_X8_sheetAt rfl rfl rfl (by decide +kernel) ⟨(Nat.le_of_ble_eq_true rfl), (Nat.le_of_ble_eq_true rfl)⟩) hO0 (by decide) rfl rfl rfl (Nat.le_of_ble_eq_true rfl) ⟨Nat.zero_le _, Nat.zero_le _⟩ dX8_lay_2 rfl ?_
  refine v_wt (fun hv_4 => ?_)
  refine v_astore_nR (L' := [(0, .ref (G.2.2.1 0)), (2, rv G.2.2.1 r3)]) hC dX8_lay_5 (by decide) [1, 0] rfl ?_
  refine v_aload_nR hC dX8_lay_6 1 rfl ?_
  cases r3 with
  | none =>
    replace h := mo_n h
    refine v_ifnonnull_f hC dX8_lay_7 ?_
    refine v_bipush (v := (-2)) hC dX8_lay_10 (by decide) ?_
    exact v_iret hC rfl dX8_lay_12 h
  | some j5 =>
    replace h := mo_s h
    refine v_ifnonnull_t (tgt := 13) hC dX8_lay_7 (by decide) ?_
    refine V.sub (L' := [(0, .ref (G.2.2.1 0)), (2, .ref (G.2.2.1 j5))]) [0, 1] rfl ?_
    refine v_aload_n hC dX8_lay_13 1 rfl ?_
    obtain ⟨r8, s7, hc_6, h⟩ := bd2 h
    refine v_callVI hC xE_ok (n := 0) (As := []) (k_X3_isMissing l hG ((show Ob G xY j5 3 from (rok_sheetAt hG (hO0) hv_4 hc_1) j5 rfl)) hc_6) (cwV 0 hC.1.2.2.2.2 gX8_lay_X3_isMissing rfl rfl rfl (by decide +kernel) ⟨(Nat.le_of_ble_eq_true rfl), (Nat.le_of_ble_eq_true rfl)⟩) (show Ob G xY j5 3 from (rok_sheetAt hG (hO0) hv_4 hc_1) j5 rfl) (by decide) rfl rfl rfl (Nat.le_of_ble_eq_true rfl) ⟨Nat.zero_le _, Nat.zero_le _⟩ dX8_lay_14 rfl ?_
    refine v_if_eq (tgt := 23) hC dX8_lay_17 (by decide) (fun c_9 => ?_) (fun c_9 => ?_)
    · replace h := ift c_9 h
      refine v_aload_n hC dX8_lay_23 1 rfl ?_
      refine v_getN (C := RX3) (T := TX3) (N := 3) (ci := 3) (k := 2) (v := .int (gI s7 j5 2)) hC (show Ob G xY j5 3 from (rok_sheetAt hG (hO0) hv_4 hc_1) j5 rfl) hi_X8_lay_X3 rfl (by decide) (by decide) rfl rfl (xE_nf_X8_135 hC.2.2.2.2.2) dX8_lay_24 rfl ?_
      refine v_aload_n hC dX8_lay_27 0 rfl ?_
      refine v_get (C := RX8) (T := TX8) (N := 20) (ci := 7) (k := 0) (v := .ref (G.2.2.1 1)) hC hO0 hi_X8_lay_X8 rfl (by decide) (by decide) rfl rfl fl10_X8_lay dX8_lay_28 rfl ?_
      refine v_getN (C := RX0) (T := TX0) (N := 5) (ci := 0) (k := 1) (v := .int (gI s7 1 1)) hC (obX_7_0 hG hO0) hi_X8_lay_X0 rfl (by decide) (by decide) rfl rfl (xE_nf_X8_124 hC.2.2.2.2.2) dX8_lay_31 rfl ?_
      refine v_icmp_ne (tgt := 44) hC dX8_lay_34 (by decide) (fun c_10 => ?_) (fun c_10 => ?_)
      · replace h := ifn c_10 h
        refine v_bipush (v := (-2)) hC dX8_lay_44 (by decide) ?_
        exact v_iret hC rfl dX8_lay_46 h
      · replace h := ift c_10 h
        refine v_aload_n hC dX8_lay_37 1 rfl ?_
        obtain ⟨r13, s12, hc_11, h⟩ := bd2 h
        refine v_callSI hC xE_ok (n := 1) (As := [.ref (G.2.2.1 j5)]) (k_X8_holdsLaying l hG ((show Ob G xY j5 3 from (rok_sheetAt hG (hO0) hv_4 hc_1) j5 rfl)) hc_11) (va_cwS 1 hC.1.2.2.2.2 gX8_lay_X8_holdsLaying rfl rfl rfl (by decide +kernel) ⟨(Nat.le_of_ble_eq_true rfl), (Nat.le_of_ble_eq_true rfl)⟩) rfl (Nat.le_of_ble_eq_true rfl) ⟨Nat.zero_le _, Nat.zero_le _⟩ dX8_lay_38 rfl ?_
        refine v_if_ne (tgt := 47) hC dX8_lay_41 (by decide) (fun c_14 => ?_) (fun c_14 => ?_)
        · replace h := ifn c_14 h
          refine v_iconst (v := 0) hC dX8_lay_47 (by decide) ?_
          refine v_istore_n (L' := [(0, .ref (G.2.2.1 0)), (2, .ref (G.2.2.1 j5)), (3, .int 0)]) hC dX8_lay_48 (by decide) [1, 2, 0] rfl ?_
          refine v_iconst (v := 0) hC dX8_lay_49 (by decide) ?_
          refine v_istore (L' := [(0, .ref (G.2.2.1 0)), (2, .ref (G.2.2.1 j5)), (3, .int 0), (4, .int 0)]) hC dX8_lay_50 (by decide) [1, 2, 3, 0] rfl ?_
          exact w_X8_lay_52 hG (hO0) ((show Ob G xY j5 3 from (rok_sheetAt hG (hO0) hv_4 hc_1) j5 rfl)) hC FU _ _ _ h
        · replace h := ift c_14 h
          refine v_bipush (v := (-2)) hC dX8_lay_44 (by decide) ?_
          exact v_iret hC rfl dX8_lay_46 h
    · replace h := ifn c_9 h
      refine v_bipush (v := (-11)) hC dX8_lay_20 (by decide) ?_
      exact v_iret hC rfl dX8_lay_22 h
theorem k_X8_lay {adK adV : Nat → Nat} {tb : Nat} (l : Launch) {G : WD}  {r0 : Int32} {τ : HS} {p1 : Int32} {σ : HS}  (hG : GX G xY) (hO0 : Ob G xY 0 7) (h : c_X8_lay p1 σ = some (r0, τ)) : MI (xE adK adV tb) l yX8_lay wsX8_lay rmX8_lay G xY [.ref (G.2.2.1 0), .int p1] σ r0 τ :=
  MI.of RX8 (by decide) rfl rfl (Nat.le_of_ble_eq_true rfl) rfl rfl (fun p e s m below meth c hC => w_X8_lay  hG hO0 hC h)
abbrev rmX8_swap : Room := { frames := 3, cells := 0, slots := 0, locals := 66 }
def c_X8_swap (p1 : Int32) (p2 : Int32) (σ : HS) : Option (Int32 × HS) := (bi2 (c_X0_has 1 p1 σ) (fun r3 s2 => (if r3 = 0 then (some ((-2), s2)) else (bi2 (c_X0_has 1 p2 s2) (fun r7 s6 => (if r7 = 0 then (some ((-2), s6)) else (if p1 = p2 then (some ((-2), s6)) else (bi1 (c_X0_change 1 p1 p2 s6) (fun s11 => (some (1, s11)))))))))))
set_option maxHeartbeats 4000000 in
set_option maxRecDepth 100000 in
theorem w_X8_swap {adK adV : Nat → Nat} {tb : Nat} {p : Program} {l : Launch} {e : Env} {s : State} {m : MethodId} {args : Array Value} {below : List Frame} {meth : Method} {c : Code} {A : Nat → Prop} {G : WD}  {r0 : Int32} {τ : HS} {p1 : Int32} {p2 : Int32} {σ : HS}  (hG : GX G xY) (hO0 : Ob G xY 0 7) (hC : Cx (xE adK adV tb) G.1 G.2.1 xY cX8_swap 3 (some .int) RX8 wsX8_swap p s m args meth c A) (h : c_X8_swap p1 p2 σ = some (r0, τ)) : V p l e rmX8_swap s m args below meth c 3 A G xY 0 0 (MQ below (QI G xY A r0 τ) args s 0 0 A) σ 0 [(0, .ref (G.2.2.1 0)), (1, .int p1), (2, .int p2)] [] := by
  rw [c_X8_swap] at h
  refine v_aload_n hC dX8_swap_0 0 rfl ?_
  refine v_get (C := RX8) (T := TX8) (N := 20) (ci := 7) (k := 0) (v := .ref (G.2.2.1 1)) hC hO0 hi_X8_swap_X8 rfl (by decide) (by decide) rfl rfl fl10_X8_swap dX8_swap_1 rfl ?_
  refine v_iload_n hC dX8_swap_4 1 rfl ?_
  obtain ⟨r3, s2, hc_1, h⟩ := bd2 h
  refine v_callVI hC xE_ok (n := 1) (As := [.int p1]) (k_X0_has l hG ((obX_7_0 hG hO0)) hc_1) (cwV 1 hC.1.2.2.2.2 gX8_swap_X0_has rfl rfl rfl (by decide +kernel) ⟨(Nat.le_of_ble_eq_true rfl), (Nat.le_of_ble_eq_true rfl)⟩) (obX_7_0 hG hO0) (by decide) rfl rfl rfl (Nat.le_of_ble_eq_true rfl) ⟨Nat.zero_le _, Nat.zero_le _⟩ dX8_swap_5 rfl ?_
  refine v_if_eq (tgt := 27) hC dX8_swap_8 (by decide) (fun c_4 => ?_) (fun c_4 => ?_)
  · replace h := ift c_4 h
    refine v_bipush (v := (-2)) hC dX8_swap_27 (by decide) ?_
    exact v_iret hC rfl dX8_swap_29 h
  · replace h := ifn c_4 h
    refine v_aload_n hC dX8_swap_11 0 rfl ?_
    refine v_get (C := RX8) (T := TX8) (N := 20) (ci := 7) (k := 0) (v := .ref (G.2.2.1 1)) hC hO0 hi_X8_swap_X8 rfl (by decide) (by decide) rfl rfl fl10_X8_swap dX8_swap_12 rfl ?_
    refine v_iload_n hC dX8_swap_15 2 rfl ?_
    obtain ⟨r7, s6, hc_5, h⟩ := bd2 h
    refine v_callVI hC xE_ok (n := 1) (As := [.int p2]) (k_X0_has l hG ((obX_7_0 hG hO0)) hc_5) (cwV 1 hC.1.2.2.2.2 gX8_swap_X0_has rfl rfl rfl (by decide +kernel) ⟨(Nat.le_of_ble_eq_true rfl), (Nat.le_of_ble_eq_true rfl)⟩) (obX_7_0 hG hO0) (by decide) rfl rfl rfl (Nat.le_of_ble_eq_true rfl) ⟨Nat.zero_le _, Nat.zero_le _⟩ dX8_swap_16 rfl ?_
    refine v_if_eq (tgt := 27) hC dX8_swap_19 (by decide) (fun c_8 => ?_) (fun c_8 => ?_)
    · replace h := ift c_8 h
      refine v_bipush (v := (-2)) hC dX8_swap_27 (by decide) ?_
      exact v_iret hC rfl dX8_swap_29 h
    · replace h := ifn c_8 h
      refine v_iload_n hC dX8_swap_22 1 rfl ?_
      refine v_iload_n hC dX8_swap_23 2 rfl ?_
      refine v_icmp_ne (tgt := 30) hC dX8_swap_24 (by decide) (fun c_9 => ?_) (fun c_9 => ?_)
      · replace h := ifn c_9 h
        refine v_aload_n hC dX8_swap_30 0 rfl ?_
        refine v_get (C := RX8) (T := TX8) (N := 20) (ci := 7) (k := 0) (v := .ref (G.2.2.1 1)) hC hO0 hi_X8_swap_X8 rfl (by decide) (by decide) rfl rfl fl10_X8_swap dX8_swap_31 rfl ?_
        refine v_iload_n hC dX8_swap_34 1 rfl ?_
        refine v_iload_n hC dX8_swap_35 2 rfl ?_
        obtain ⟨s11, hc_10, h⟩ := bd1 h
        refine v_callVV hC xE_ok (n := 2) (As := [.int p1, .int p2]) (k_X0_change l hG ((obX_7_0 hG hO0)) hc_10) (cwV 2 hC.1.2.2.2.2 gX8_swap_X0_change rfl rfl rfl (by decide +kernel) ⟨(Nat.le_of_ble_eq_true rfl), (Nat.le_of_ble_eq_true rfl)⟩) (obX_7_0 hG hO0) (by decide) rfl rfl rfl (Nat.le_of_ble_eq_true rfl) ⟨Nat.zero_le _, Nat.zero_le _⟩ dX8_swap_36 rfl ?_
        refine v_iconst (v := 1) hC dX8_swap_39 (by decide) ?_
        exact v_iret hC rfl dX8_swap_40 h
      · replace h := ift c_9 h
        refine v_bipush (v := (-2)) hC dX8_swap_27 (by decide) ?_
        exact v_iret hC rfl dX8_swap_29 h
theorem k_X8_swap {adK adV : Nat → Nat} {tb : Nat} (l : Launch) {G : WD}  {r0 : Int32} {τ : HS} {p1 : Int32} {p2 : Int32} {σ : HS}  (hG : GX G xY) (hO0 : Ob G xY 0 7) (h : c_X8_swap p1 p2 σ = some (r0, τ)) : MI (xE adK adV tb) l yX8_swap wsX8_swap rmX8_swap G xY [.ref (G.2.2.1 0), .int p1, .int p2] σ r0 τ :=
  MI.of RX8 (by decide) rfl rfl (Nat.le_of_ble_eq_true rfl) rfl rfl (fun p e s m below meth c hC => w_X8_swap  hG hO0 hC h)
abbrev rmX8_empty : Room := { frames := 2, cells := 0, slots := 0, locals := 43 }
def c_X8_empty (p1 : Int32) (σ : HS) : Option (Int32 × HS) := (bi2 (c_X0_has 1 p1 σ) (fun r3 s2 => (if r3 = 0 then (some ((-2), s2)) else (bi2 (c_X0_at 1 p1 s2) (fun r7 s6 => (if r7 = (-1) then (some ((-3), s6)) else (bi1 (c_X0_put 1 p1 (-1) s6) (fun s10 => (some (r7, s10))))))))))
set_option maxHeartbeats 4000000 in
set_option maxRecDepth 100000 in
theorem w_X8_empty {adK adV : Nat → Nat} {tb : Nat} {p : Program} {l : Launch} {e : Env} {s : State} {m : MethodId} {args : Array Value} {below : List Frame} {meth : Method} {c : Code} {A : Nat → Prop} {G : WD}  {r0 : Int32} {τ : HS} {p1 : Int32} {σ : HS}  (hG : GX G xY) (hO0 : Ob G xY 0 7) (hC : Cx (xE adK adV tb) G.1 G.2.1 xY cX8_empty 3 (some .int) RX8 wsX8_empty p s m args meth c A) (h : c_X8_empty p1 σ = some (r0, τ)) : V p l e rmX8_empty s m args below meth c 3 A G xY 0 0 (MQ below (QI G xY A r0 τ) args s 0 0 A) σ 0 [(0, .ref (G.2.2.1 0)), (1, .int p1)] [] := by
  rw [c_X8_empty] at h
  refine v_aload_n hC dX8_empty_0 0 rfl ?_
  refine v_get (C := RX8) (T := TX8) (N := 20) (ci := 7) (k := 0) (v := .ref (G.2.2.1 1)) hC hO0 hi_X8_empty_X8 rfl (by decide) (by decide) rfl rfl fl10_X8_empty dX8_empty_1 rfl ?_
  refine v_iload_n hC dX8_empty_4 1 rfl ?_
  obtain ⟨r3, s2, hc_1, h⟩ := bd2 h
  refine v_callVI hC xE_ok (n := 1) (As := [.int p1]) (k_X0_has l hG ((obX_7_0 hG hO0)) hc_1) (cwV 1 hC.1.2.2.2.2 gX8_empty_X0_has rfl rfl rfl (by decide +kernel) ⟨(Nat.le_of_ble_eq_true rfl), (Nat.le_of_ble_eq_true rfl)⟩) (obX_7_0 hG hO0) (by decide) rfl rfl rfl (Nat.le_of_ble_eq_true rfl) ⟨Nat.zero_le _, Nat.zero_le _⟩ dX8_empty_5 rfl ?_
  refine v_if_ne (tgt := 14) hC dX8_empty_8 (by decide) (fun c_4 => ?_) (fun c_4 => ?_)
  · replace h := ifn c_4 h
    refine v_aload_n hC dX8_empty_14 0 rfl ?_
    refine v_get (C := RX8) (T := TX8) (N := 20) (ci := 7) (k := 0) (v := .ref (G.2.2.1 1)) hC hO0 hi_X8_empty_X8 rfl (by decide) (by decide) rfl rfl fl10_X8_empty dX8_empty_15 rfl ?_
    refine v_iload_n hC dX8_empty_18 1 rfl ?_
    obtain ⟨r7, s6, hc_5, h⟩ := bd2 h
    refine v_callVI hC xE_ok (n := 1) (As := [.int p1]) (k_X0_at l hG ((obX_7_0 hG hO0)) hc_5) (cwV 1 hC.1.2.2.2.2 gX8_empty_X0_at rfl rfl rfl (by decide +kernel) ⟨(Nat.le_of_ble_eq_true rfl), (Nat.le_of_ble_eq_true rfl)⟩) (obX_7_0 hG hO0) (by decide) rfl rfl rfl (Nat.le_of_ble_eq_true rfl) ⟨Nat.zero_le _, Nat.zero_le _⟩ dX8_empty_19 rfl ?_
    refine v_istore_n (L' := [(0, .ref (G.2.2.1 0)), (1, .int p1), (2, .int r7)]) hC dX8_empty_22 (by decide) [1, 2, 0] rfl ?_
    refine v_iload_n hC dX8_empty_23 2 rfl ?_
    refine v_iconst (v := (-1)) hC dX8_empty_24 (by decide) ?_
    refine v_icmp_ne (tgt := 31) hC dX8_empty_25 (by decide) (fun c_8 => ?_) (fun c_8 => ?_)
    · replace h := ifn c_8 h
      refine v_aload_n hC dX8_empty_31 0 rfl ?_
      refine v_get (C := RX8) (T := TX8) (N := 20) (ci := 7) (k := 0) (v := .ref (G.2.2.1 1)) hC hO0 hi_X8_empty_X8 rfl (by decide) (by decide) rfl rfl fl10_X8_empty dX8_empty_32 rfl ?_
      refine v_iload_n hC dX8_empty_35 1 rfl ?_
      refine v_iconst (v := (-1)) hC dX8_empty_36 (by decide) ?_
      obtain ⟨s10, hc_9, h⟩ := bd1 h
      refine v_callVV hC xE_ok (n := 2) (As := [.int p1, .int (-1)]) (k_X0_put l hG ((obX_7_0 hG hO0)) hc_9) (cwV 2 hC.1.2.2.2.2 gX8_empty_X0_put rfl rfl rfl (by decide +kernel) ⟨(Nat.le_of_ble_eq_true rfl), (Nat.le_of_ble_eq_true rfl)⟩) (obX_7_0 hG hO0) (by decide) rfl rfl rfl (Nat.le_of_ble_eq_true rfl) ⟨Nat.zero_le _, Nat.zero_le _⟩ dX8_empty_37 rfl ?_
      refine v_iload_n hC dX8_empty_40 2 rfl ?_
      exact v_iret hC rfl dX8_empty_41 h
    · replace h := ift c_8 h
      refine v_bipush (v := (-3)) hC dX8_empty_28 (by decide) ?_
      exact v_iret hC rfl dX8_empty_30 h
  · replace h := ift c_4 h
    refine v_bipush (v := (-2)) hC dX8_empty_11 (by decide) ?_
    exact v_iret hC rfl dX8_empty_13 h
theorem k_X8_empty {adK adV : Nat → Nat} {tb : Nat} (l : Launch) {G : WD}  {r0 : Int32} {τ : HS} {p1 : Int32} {σ : HS}  (hG : GX G xY) (hO0 : Ob G xY 0 7) (h : c_X8_empty p1 σ = some (r0, τ)) : MI (xE adK adV tb) l yX8_empty wsX8_empty rmX8_empty G xY [.ref (G.2.2.1 0), .int p1] σ r0 τ :=
  MI.of RX8 (by decide) rfl rfl (Nat.le_of_ble_eq_true rfl) rfl rfl (fun p e s m below meth c hC => w_X8_empty  hG hO0 hC h)
abbrev rmX8_box : Room := { frames := 2, cells := 0, slots := 0, locals := 44 }
def c_X8_box (p1 : Int32) (p2 : Int32) (σ : HS) : Option (Int32 × HS) := (bi2 (c_X0_has 1 p1 σ) (fun r3 s2 => (if r3 = 0 then (some ((-2), s2)) else (if p2 < 0 then (some ((-2), s2)) else (if p2 ≤ 1 then (if p2 = 0 then (bi2 (c_X0_at 1 p1 s2) (fun r13 s12 => (some (r13, s12)))) else (bi2 (c_X0_ringLength 1 p1 s2) (fun r10 s9 => (some (r10, s9))))) else (some ((-2), s2)))))))
set_option maxHeartbeats 4000000 in
set_option maxRecDepth 100000 in
theorem w_X8_box {adK adV : Nat → Nat} {tb : Nat} {p : Program} {l : Launch} {e : Env} {s : State} {m : MethodId} {args : Array Value} {below : List Frame} {meth : Method} {c : Code} {A : Nat → Prop} {G : WD}  {r0 : Int32} {τ : HS} {p1 : Int32} {p2 : Int32} {σ : HS}  (hG : GX G xY) (hO0 : Ob G xY 0 7) (hC : Cx (xE adK adV tb) G.1 G.2.1 xY cX8_box 3 (some .int) RX8 wsX8_box p s m args meth c A) (h : c_X8_box p1 p2 σ = some (r0, τ)) : V p l e rmX8_box s m args below meth c 3 A G xY 0 0 (MQ below (QI G xY A r0 τ) args s 0 0 A) σ 0 [(0, .ref (G.2.2.1 0)), (1, .int p1), (2, .int p2)] [] := by
  rw [c_X8_box] at h
  refine v_aload_n hC dX8_box_0 0 rfl ?_
  refine v_get (C := RX8) (T := TX8) (N := 20) (ci := 7) (k := 0) (v := .ref (G.2.2.1 1)) hC hO0 hi_X8_box_X8 rfl (by decide) (by decide) rfl rfl fl10_X8_box dX8_box_1 rfl ?_
  refine v_iload_n hC dX8_box_4 1 rfl ?_
  obtain ⟨r3, s2, hc_1, h⟩ := bd2 h
  refine v_callVI hC xE_ok (n := 1) (As := [.int p1]) (k_X0_has l hG ((obX_7_0 hG hO0)) hc_1) (cwV 1 hC.1.2.2.2.2 gX8_box_X0_has rfl rfl rfl (by decide +kernel) ⟨(Nat.le_of_ble_eq_true rfl), (Nat.le_of_ble_eq_true rfl)⟩) (obX_7_0 hG hO0) (by decide) rfl rfl rfl (Nat.le_of_ble_eq_true rfl) ⟨Nat.zero_le _, Nat.zero_le _⟩ dX8_box_5 rfl ?_
  refine v_if_eq (tgt := 20) hC dX8_box_8 (by decide) (fun c_4 => ?_) (fun c_4 => ?_)
  · replace h := ift c_4 h
    refine v_bipush (v := (-2)) hC dX8_box_20 (by decide) ?_
    exact v_iret hC rfl dX8_box_22 h
  · replace h := ifn c_4 h
    refine v_iload_n hC dX8_box_11 2 rfl ?_
    refine v_if_lt (tgt := 20) hC dX8_box_12 (by decide) (fun c_5 => ?_) (fun c_5 => ?_)
    · replace h := ift c_5 h
      refine v_bipush (v := (-2)) hC dX8_box_20 (by decide) ?_
      exact v_iret hC rfl dX8_box_22 h
    · replace h := ifn c_5 h
      refine v_iload_n hC dX8_box_15 2 rfl ?_
      refine v_iconst (v := 1) hC dX8_box_16 (by decide) ?_
      refine v_icmp_le (tgt := 23) hC dX8_box_17 (by decide) (fun c_6 => ?_) (fun c_6 => ?_)
      · replace h := ift c_6 h
        refine v_iload_n hC dX8_box_23 2 rfl ?_
        refine v_if_ne (tgt := 38) hC dX8_box_24 (by decide) (fun c_7 => ?_) (fun c_7 => ?_)
        · replace h := ifn c_7 h
          refine v_aload_n hC dX8_box_38 0 rfl ?_
          refine v_get (C := RX8) (T := TX8) (N := 20) (ci := 7) (k := 0) (v := .ref (G.2.2.1 1)) hC hO0 hi_X8_box_X8 rfl (by decide) (by decide) rfl rfl fl10_X8_box dX8_box_39 rfl ?_
          refine v_iload_n hC dX8_box_42 1 rfl ?_
          obtain ⟨r10, s9, hc_8, h⟩ := bd2 h
          refine v_callVI hC xE_ok (n := 1) (As := [.int p1]) (k_X0_ringLength l hG ((obX_7_0 hG hO0)) hc_8) (cwV 1 hC.1.2.2.2.2 gX8_box_X0_ringLength rfl rfl rfl (by decide +kernel) ⟨(Nat.le_of_ble_eq_true rfl), (Nat.le_of_ble_eq_true rfl)⟩) (obX_7_0 hG hO0) (by decide) rfl rfl rfl (Nat.le_of_ble_eq_true rfl) ⟨Nat.zero_le _, Nat.zero_le _⟩ dX8_box_43 rfl ?_
          exact v_iret hC rfl dX8_box_46 h
        · replace h := ift c_7 h
          refine v_aload_n hC dX8_box_27 0 rfl ?_
          refine v_get (C := RX8) (T := TX8) (N := 20) (ci := 7) (k := 0) (v := .ref (G.2.2.1 1)) hC hO0 hi_X8_box_X8 rfl (by decide) (by decide) rfl rfl fl10_X8_box dX8_box_28 rfl ?_
          refine v_iload_n hC dX8_box_31 1 rfl ?_
          obtain ⟨r13, s12, hc_11, h⟩ := bd2 h
          refine v_callVI hC xE_ok (n := 1) (As := [.int p1]) (k_X0_at l hG ((obX_7_0 hG hO0)) hc_11) (cwV 1 hC.1.2.2.2.2 gX8_box_X0_at rfl rfl rfl (by decide +kernel) ⟨(Nat.le_of_ble_eq_true rfl), (Nat.le_of_ble_eq_true rfl)⟩) (obX_7_0 hG hO0) (by decide) rfl rfl rfl (Nat.le_of_ble_eq_true rfl) ⟨Nat.zero_le _, Nat.zero_le _⟩ dX8_box_32 rfl ?_
          refine v_goto (tgt := 46) hC dX8_box_35 (by decide) ?_
          exact v_iret hC rfl dX8_box_46 h
      · replace h := ifn c_6 h
        refine v_bipush (v := (-2)) hC dX8_box_20 (by decide) ?_
        exact v_iret hC rfl dX8_box_22 h
theorem k_X8_box {adK adV : Nat → Nat} {tb : Nat} (l : Launch) {G : WD}  {r0 : Int32} {τ : HS} {p1 : Int32} {p2 : Int32} {σ : HS}  (hG : GX G xY) (hO0 : Ob G xY 0 7) (h : c_X8_box p1 p2 σ = some (r0, τ)) : MI (xE adK adV tb) l yX8_box wsX8_box rmX8_box G xY [.ref (G.2.2.1 0), .int p1, .int p2] σ r0 τ :=
  MI.of RX8 (by decide) rfl rfl (Nat.le_of_ble_eq_true rfl) rfl rfl (fun p e s m below meth c hC => w_X8_box  hG hO0 hC h)
abbrev rmX8_rings : Room := { frames := 2, cells := 0, slots := 0, locals := 54 }
def c_X8_rings (p1 : Int32) (σ : HS) : Option (Int32 × HS) := (if p1 < 0 then (some ((-2), σ)) else (if p1 ≤ 2 then (bi1 (c_X0_survey 1 σ) (fun s4 => (if p1 = 0 then (some ((gI s4 1 2), s4)) else (if p1 = 1 then (some ((gI s4 1 3), s4)) else (some ((gI s4 1 4), s4)))))) else (some ((-2), σ))))
set_option maxHeartbeats 4000000 in
set_option maxRecDepth 100000 in
theorem w_X8_rings {adK adV : Nat → Nat} {tb : Nat} {p : Program} {l : Launch} {e : Env} {s : State} {m : MethodId} {args : Array Value} {below : List Frame} {meth : Method} {c : Code} {A : Nat → Prop} {G : WD}  {r0 : Int32} {τ : HS} {p1 : Int32} {σ : HS}  (hG : GX G xY) (hO0 : Ob G xY 0 7) (hC : Cx (xE adK adV tb) G.1 G.2.1 xY cX8_rings 2 (some .int) RX8 wsX8_rings p s m args meth c A) (h : c_X8_rings p1 σ = some (r0, τ)) : V p l e rmX8_rings s m args below meth c 2 A G xY 0 0 (MQ below (QI G xY A r0 τ) args s 0 0 A) σ 0 [(0, .ref (G.2.2.1 0)), (1, .int p1)] [] := by
  rw [c_X8_rings] at h
  refine v_iload_n hC dX8_rings_0 1 rfl ?_
  refine v_if_lt (tgt := 9) hC dX8_rings_1 (by decide) (fun c_1 => ?_) (fun c_1 => ?_)
  · replace h := ift c_1 h
    refine v_bipush (v := (-2)) hC dX8_rings_9 (by decide) ?_
    exact v_iret hC rfl dX8_rings_11 h
  · replace h := ifn c_1 h
    refine v_iload_n hC dX8_rings_4 1 rfl ?_
    refine v_iconst (v := 2) hC dX8_rings_5 (by decide) ?_
    refine v_icmp_le (tgt := 12) hC dX8_rings_6 (by decide) (fun c_2 => ?_) (fun c_2 => ?_)
    · replace h := ift c_2 h
      refine v_aload_n hC dX8_rings_12 0 rfl ?_
      refine v_get (C := RX8) (T := TX8) (N := 20) (ci := 7) (k := 0) (v := .ref (G.2.2.1 1)) hC hO0 hi_X8_rings_X8 rfl (by decide) (by decide) rfl rfl fl10_X8_rings dX8_rings_13 rfl ?_
      obtain ⟨s4, hc_3, h⟩ := bd1 h
      refine v_callVV hC xE_ok (n := 0) (As := []) (k_X0_survey l hG ((obX_7_0 hG hO0)) hc_3) (cwV 0 hC.1.2.2.2.2 gX8_rings_X0_survey rfl rfl rfl (by decide +kernel) ⟨(Nat.le_of_ble_eq_true rfl), (Nat.le_of_ble_eq_true rfl)⟩) (obX_7_0 hG hO0) (by decide) rfl rfl rfl (Nat.le_of_ble_eq_true rfl) ⟨Nat.zero_le _, Nat.zero_le _⟩ dX8_rings_16 rfl ?_
      refine v_iload_n hC dX8_rings_19 1 rfl ?_
      refine v_if_ne (tgt := 31) hC dX8_rings_20 (by decide) (fun c_5 => ?_) (fun c_5 => ?_)
      · replace h := ifn c_5 h
        refine v_iload_n hC dX8_rings_31 1 rfl ?_
        refine v_iconst (v := 1) hC dX8_rings_32 (by decide) ?_
        refine v_icmp_ne (tgt := 46) hC dX8_rings_33 (by decide) (fun c_6 => ?_) (fun c_6 => ?_)
        · replace h := ifn c_6 h
          refine v_aload_n hC dX8_rings_46 0 rfl ?_
          refine v_get (C := RX8) (T := TX8) (N := 20) (ci := 7) (k := 0) (v := .ref (G.2.2.1 1)) hC hO0 hi_X8_rings_X8 rfl (by decide) (by decide) rfl rfl fl10_X8_rings dX8_rings_47 rfl ?_
          refine v_getN (C := RX0) (T := TX0) (N := 5) (ci := 0) (k := 4) (v := .int (gI s4 1 4)) hC (obX_7_0 hG hO0) hi_X8_rings_X0 rfl (by decide) (by decide) rfl rfl (xE_nf_X8_167 hC.2.2.2.2.2) dX8_rings_50 rfl ?_
          exact v_iret hC rfl dX8_rings_53 h
        · replace h := ift c_6 h
          refine v_aload_n hC dX8_rings_36 0 rfl ?_
          refine v_get (C := RX8) (T := TX8) (N := 20) (ci := 7) (k := 0) (v := .ref (G.2.2.1 1)) hC hO0 hi_X8_rings_X8 rfl (by decide) (by decide) rfl rfl fl10_X8_rings dX8_rings_37 rfl ?_
          refine v_getN (C := RX0) (T := TX0) (N := 5) (ci := 0) (k := 3) (v := .int (gI s4 1 3)) hC (obX_7_0 hG hO0) hi_X8_rings_X0 rfl (by decide) (by decide) rfl rfl (xE_nf_X8_164 hC.2.2.2.2.2) dX8_rings_40 rfl ?_
          refine v_goto (tgt := 53) hC dX8_rings_43 (by decide) ?_
          exact v_iret hC rfl dX8_rings_53 h
      · replace h := ift c_5 h
        refine v_aload_n hC dX8_rings_23 0 rfl ?_
        refine v_get (C := RX8) (T := TX8) (N := 20) (ci := 7) (k := 0) (v := .ref (G.2.2.1 1)) hC hO0 hi_X8_rings_X8 rfl (by decide) (by decide) rfl rfl fl10_X8_rings dX8_rings_24 rfl ?_
        refine v_getN (C := RX0) (T := TX0) (N := 5) (ci := 0) (k := 2) (v := .int (gI s4 1 2)) hC (obX_7_0 hG hO0) hi_X8_rings_X0 rfl (by decide) (by decide) rfl rfl (xE_nf_X8_161 hC.2.2.2.2.2) dX8_rings_27 rfl ?_
        exact v_iret hC rfl dX8_rings_30 h
    · replace h := ifn c_2 h
      refine v_bipush (v := (-2)) hC dX8_rings_9 (by decide) ?_
      exact v_iret hC rfl dX8_rings_11 h
theorem k_X8_rings {adK adV : Nat → Nat} {tb : Nat} (l : Launch) {G : WD}  {r0 : Int32} {τ : HS} {p1 : Int32} {σ : HS}  (hG : GX G xY) (hO0 : Ob G xY 0 7) (h : c_X8_rings p1 σ = some (r0, τ)) : MI (xE adK adV tb) l yX8_rings wsX8_rings rmX8_rings G xY [.ref (G.2.2.1 0), .int p1] σ r0 τ :=
  MI.of RX8 (by decide) rfl rfl (Nat.le_of_ble_eq_true rfl) rfl rfl (fun p e s m below meth c hC => w_X8_rings  hG hO0 hC h)
abbrev rmX8_feed : Room := { frames := 1, cells := 0, slots := 0, locals := 21 }
def c_X8_feed_35 : Nat → Int32 → Int64 → Int32 → HS → Option (Int32 × HS)
  | 0, _, _, _, _ => none
  | n + 1, x1, x2, x4, σ => (if x1 ≤ x4 then (some ((gI σ 12 1), σ)) else (bi1 (c_X5_add 12 ((Int64.toInt32 (x2 >>> (Int32.toInt64 (8 * x4) &&& 63))) &&& 255) σ) (fun s6 => (c_X8_feed_35 n x1 x2 (x4 + 1) s6))))
set_option maxHeartbeats 4000000 in
set_option maxRecDepth 100000 in
theorem w_X8_feed_35 {adK adV : Nat → Nat} {tb : Nat} {p : Program} {l : Launch} {e : Env} {s : State} {m : MethodId} {args : Array Value} {below : List Frame} {meth : Method} {c : Code} {A : Nat → Prop} {G : WD}  {r0 : Int32} {τ : HS}   (hG : GX G xY) (hO0 : Ob G xY 0 7) (hC : Cx (xE adK adV tb) G.1 G.2.1 xY cX8_feed 5 (some .int) RX8 wsX8_feed p s m args meth c A)  : ∀ (n : Nat) (x1 : Int32) (x2 : Int64) (x4 : Int32) (σ : HS), c_X8_feed_35 n x1 x2 x4 σ = some (r0, τ) → V p l e rmX8_feed s m args below meth c 5 A G xY 0 0 (MQ below (QI G xY A r0 τ) args s 0 0 A) σ 35 [(0, .ref (G.2.2.1 0)), (1, .int x1), (2, .long x2), (4, .int x4)] [] := by
  intro n
  induction n with
  | zero => intro x1 x2 x4 σ h; exact nof h
  | succ n ih =>
    intro x1 x2 x4 σ h
    rw [c_X8_feed_35] at h
    refine v_iload hC dX8_feed_35 3 rfl ?_
    refine v_iload_n hC dX8_feed_37 1 rfl ?_
    refine v_icmp_ge (tgt := 66) hC dX8_feed_38 (by decide) (fun c_4 => ?_) (fun c_4 => ?_)
    · replace h := ift c_4 h
      refine v_aload_n hC dX8_feed_66 0 rfl ?_
      refine v_get (C := RX8) (T := TX8) (N := 20) (ci := 7) (k := 13) (v := .ref (G.2.2.1 12)) hC hO0 hi_X8_feed_X8 rfl (by decide) (by decide) rfl rfl fl61_X8_feed dX8_feed_67 rfl ?_
      refine v_getN (C := RX5) (T := TX5) (N := 2) (ci := 5) (k := 1) (v := .int (gI σ 12 1)) hC (obX_7_13 hG hO0) hi_X8_feed_X5 rfl (by decide) (by decide) rfl rfl (xE_nf_X8_170 hC.2.2.2.2.2) dX8_feed_70 rfl ?_
      exact v_iret hC rfl dX8_feed_73 h
    · replace h := ifn c_4 h
      refine v_aload_n hC dX8_feed_41 0 rfl ?_
      refine v_get (C := RX8) (T := TX8) (N := 20) (ci := 7) (k := 13) (v := .ref (G.2.2.1 12)) hC hO0 hi_X8_feed_X8 rfl (by decide) (by decide) rfl rfl fl61_X8_feed dX8_feed_42 rfl ?_
      refine v_lload_n hC dX8_feed_45 2 rfl ?_
      refine v_bipush (v := 8) hC dX8_feed_46 (by decide) ?_
      refine v_iload hC dX8_feed_48 3 rfl ?_
      refine v_imul hC dX8_feed_50 ?_
      refine v_lshr hC dX8_feed_51 ?_
      refine v_l2i hC dX8_feed_52 ?_
      refine v_sipush (v := 255) hC dX8_feed_53 (by decide) ?_
      refine v_iand hC dX8_feed_56 ?_
      obtain ⟨s6, hc_5, h⟩ := bd1 h
      refine v_callVV hC xE_ok (n := 1) (As := [.int ((Int64.toInt32 (x2 >>> (Int32.toInt64 (8 * x4) &&& 63))) &&& 255)]) (k_X5_add l hG ((obX_7_13 hG hO0)) hc_5) (cwV 1 hC.1.2.2.2.2 gX8_feed_X5_add rfl rfl rfl (by decide +kernel) ⟨(Nat.le_of_ble_eq_true rfl), (Nat.le_of_ble_eq_true rfl)⟩) (obX_7_13 hG hO0) (by decide) rfl rfl rfl (Nat.le_of_ble_eq_true rfl) ⟨Nat.zero_le _, Nat.zero_le _⟩ dX8_feed_57 rfl ?_
      refine v_iinc (v := (x4 + 1)) (L' := [(0, .ref (G.2.2.1 0)), (1, .int x1), (2, .long x2), (4, .int (x4 + 1))]) hC dX8_feed_60 3 rfl rfl (by decide) [1, 2, 3, 0] rfl ?_
      refine v_goto (tgt := 35) hC dX8_feed_63 (by decide) ?_
      exact ih _ _ _ _ h
def c_X8_feed (p1 : Int32) (p2 : Int64) (σ : HS) : Option (Int32 × HS) := (if p1 < 1 then (some ((-2), σ)) else (if p1 ≤ 8 then (if p1 ≤ (160 - (gI σ 12 1)) then (c_X8_feed_35 FU p1 p2 0 σ) else (some ((-4), σ))) else (some ((-2), σ))))
set_option maxHeartbeats 4000000 in
set_option maxRecDepth 100000 in
theorem w_X8_feed {adK adV : Nat → Nat} {tb : Nat} {p : Program} {l : Launch} {e : Env} {s : State} {m : MethodId} {args : Array Value} {below : List Frame} {meth : Method} {c : Code} {A : Nat → Prop} {G : WD}  {r0 : Int32} {τ : HS} {p1 : Int32} {p2 : Int64} {σ : HS}  (hG : GX G xY) (hO0 : Ob G xY 0 7) (hC : Cx (xE adK adV tb) G.1 G.2.1 xY cX8_feed 5 (some .int) RX8 wsX8_feed p s m args meth c A) (h : c_X8_feed p1 p2 σ = some (r0, τ)) : V p l e rmX8_feed s m args below meth c 5 A G xY 0 0 (MQ below (QI G xY A r0 τ) args s 0 0 A) σ 0 [(0, .ref (G.2.2.1 0)), (1, .int p1), (2, .long p2)] [] := by
  rw [c_X8_feed] at h
  refine v_iload_n hC dX8_feed_0 1 rfl ?_
  refine v_iconst (v := 1) hC dX8_feed_1 (by decide) ?_
  refine v_icmp_lt (tgt := 11) hC dX8_feed_2 (by decide) (fun c_1 => ?_) (fun c_1 => ?_)
  · replace h := ift c_1 h
    refine v_bipush (v := (-2)) hC dX8_feed_11 (by decide) ?_
    exact v_iret hC rfl dX8_feed_13 h
  · replace h := ifn c_1 h
    refine v_iload_n hC dX8_feed_5 1 rfl ?_
    refine v_bipush (v := 8) hC dX8_feed_6 (by decide) ?_
    refine v_icmp_le (tgt := 14) hC dX8_feed_8 (by decide) (fun c_2 => ?_) (fun c_2 => ?_)
    · replace h := ift c_2 h
      refine v_iload_n hC dX8_feed_14 1 rfl ?_
      refine v_sipush (v := 160) hC dX8_feed_15 (by decide) ?_
      refine v_aload_n hC dX8_feed_18 0 rfl ?_
      refine v_get (C := RX8) (T := TX8) (N := 20) (ci := 7) (k := 13) (v := .ref (G.2.2.1 12)) hC hO0 hi_X8_feed_X8 rfl (by decide) (by decide) rfl rfl fl61_X8_feed dX8_feed_19 rfl ?_
      refine v_getN (C := RX5) (T := TX5) (N := 2) (ci := 5) (k := 1) (v := .int (gI σ 12 1)) hC (obX_7_13 hG hO0) hi_X8_feed_X5 rfl (by decide) (by decide) rfl rfl (xE_nf_X8_170 hC.2.2.2.2.2) dX8_feed_22 rfl ?_
      refine v_isub hC dX8_feed_25 ?_
      refine v_icmp_le (tgt := 32) hC dX8_feed_26 (by decide) (fun c_3 => ?_) (fun c_3 => ?_)
      · replace h := ift c_3 h
        refine v_iconst (v := 0) hC dX8_feed_32 (by decide) ?_
        refine v_istore (L' := [(0, .ref (G.2.2.1 0)), (1, .int p1), (2, .long p2), (4, .int 0)]) hC dX8_feed_33 (by decide) [1, 2, 3, 0] rfl ?_
        exact w_X8_feed_35 hG (hO0) hC FU _ _ _ _ h
      · replace h := ifn c_3 h
        refine v_bipush (v := (-4)) hC dX8_feed_29 (by decide) ?_
        exact v_iret hC rfl dX8_feed_31 h
    · replace h := ifn c_2 h
      refine v_bipush (v := (-2)) hC dX8_feed_11 (by decide) ?_
      exact v_iret hC rfl dX8_feed_13 h
theorem k_X8_feed {adK adV : Nat → Nat} {tb : Nat} (l : Launch) {G : WD}  {r0 : Int32} {τ : HS} {p1 : Int32} {p2 : Int64} {σ : HS}  (hG : GX G xY) (hO0 : Ob G xY 0 7) (h : c_X8_feed p1 p2 σ = some (r0, τ)) : MI (xE adK adV tb) l yX8_feed wsX8_feed rmX8_feed G xY [.ref (G.2.2.1 0), .int p1, .long p2] σ r0 τ :=
  MI.of RX8 (by decide) rfl rfl (Nat.le_of_ble_eq_true rfl) rfl rfl (fun p e s m below meth c hC => w_X8_feed  hG hO0 hC h)
abbrev rmX8_force : Room := { frames := 0, cells := 0, slots := 0, locals := 0 }
def c_X8_force (p1 : Int32) (σ : HS) : Option (Int32 × HS) := (if p1 < 0 then (some ((-2), σ)) else (if p1 < (gI σ 0 12) then (lt (sI σ 0 2 p1) (fun s3 => (some ((gI σ 0 2), s3)))) else (some ((-2), σ))))
set_option maxHeartbeats 4000000 in
set_option maxRecDepth 100000 in
theorem w_X8_force {adK adV : Nat → Nat} {tb : Nat} {p : Program} {l : Launch} {e : Env} {s : State} {m : MethodId} {args : Array Value} {below : List Frame} {meth : Method} {c : Code} {A : Nat → Prop} {G : WD}  {r0 : Int32} {τ : HS} {p1 : Int32} {σ : HS}  (hG : GX G xY) (hO0 : Ob G xY 0 7) (hC : Cx (xE adK adV tb) G.1 G.2.1 xY cX8_force 3 (some .int) RX8 wsX8_force p s m args meth c A) (h : c_X8_force p1 σ = some (r0, τ)) : V p l e rmX8_force s m args below meth c 3 A G xY 0 0 (MQ below (QI G xY A r0 τ) args s 0 0 A) σ 0 [(0, .ref (G.2.2.1 0)), (1, .int p1)] [] := by
  rw [c_X8_force] at h
  refine v_iload_n hC dX8_force_0 1 rfl ?_
  refine v_if_lt (tgt := 12) hC dX8_force_1 (by decide) (fun c_1 => ?_) (fun c_1 => ?_)
  · replace h := ift c_1 h
    refine v_bipush (v := (-2)) hC dX8_force_12 (by decide) ?_
    exact v_iret hC rfl dX8_force_14 h
  · replace h := ifn c_1 h
    refine v_iload_n hC dX8_force_4 1 rfl ?_
    refine v_aload_n hC dX8_force_5 0 rfl ?_
    refine v_get (C := RX8) (T := TX8) (N := 20) (ci := 7) (k := 12) (v := .int (gI σ 0 12)) hC hO0 hi_X8_force_X8 rfl (by decide) (by decide) rfl rfl fl55_X8_force dX8_force_6 rfl ?_
    refine v_icmp_lt (tgt := 15) hC dX8_force_9 (by decide) (fun c_2 => ?_) (fun c_2 => ?_)
    · replace h := ift c_2 h
      refine v_aload_n hC dX8_force_15 0 rfl ?_
      refine v_get (C := RX8) (T := TX8) (N := 20) (ci := 7) (k := 2) (v := .int (gI σ 0 2)) hC hO0 hi_X8_force_X8 rfl (by decide) (by decide) rfl rfl fl20_X8_force dX8_force_16 rfl ?_
      refine v_istore_n (L' := [(0, .ref (G.2.2.1 0)), (1, .int p1), (2, .int (gI σ 0 2))]) hC dX8_force_19 (by decide) [1, 2, 0] rfl ?_
      refine v_aload_n hC dX8_force_20 0 rfl ?_
      refine v_iload_n hC dX8_force_21 1 rfl ?_
      refine v_putI (C := RX8) (T := TX8) (N := 20) (ci := 7) (k := 2) (ty := .int) hC hO0 hi_X8_force_X8 rfl (by decide) (by decide) rfl rfl tyX8_ok nmX8 fl20_X8_force rfl rfl rfl rfl rfl dX8_force_22 ?_
      obtain ⟨s3, e4, h⟩ := ld h
      refine V.eq e4 ?_
      refine v_iload_n hC dX8_force_25 2 rfl ?_
      exact v_iret hC rfl dX8_force_26 h
    · replace h := ifn c_2 h
      refine v_bipush (v := (-2)) hC dX8_force_12 (by decide) ?_
      exact v_iret hC rfl dX8_force_14 h
theorem k_X8_force {adK adV : Nat → Nat} {tb : Nat} (l : Launch) {G : WD}  {r0 : Int32} {τ : HS} {p1 : Int32} {σ : HS}  (hG : GX G xY) (hO0 : Ob G xY 0 7) (h : c_X8_force p1 σ = some (r0, τ)) : MI (xE adK adV tb) l yX8_force wsX8_force rmX8_force G xY [.ref (G.2.2.1 0), .int p1] σ r0 τ :=
  MI.of RX8 (by decide) rfl rfl (Nat.le_of_ble_eq_true rfl) rfl rfl (fun p e s m below meth c hC => w_X8_force  hG hO0 hC h)
abbrev rmX8_noteLaying : Room := { frames := 2, cells := 0, slots := 0, locals := 54 }
def c_X8_noteLaying (i1 : Nat) (σ : HS) : Option HS := (bi1 (c_X0_survey i1 σ) (fun s2 => (if inb 1 6 = true then (lt (sI s2 16 (ix 1) (gI s2 i1 1)) (fun s4 => (if inb 3 6 = true then (lt (sI s4 16 (ix 3) (gI s4 i1 4)) (fun s7 => (if inb 4 6 = true then (lt (sI s7 16 (ix 4) (gI s7 i1 2)) (fun s10 => (if inb 5 6 = true then (lt (sI s10 16 (ix 5) (gI s10 i1 3)) (fun s13 => (some s13))) else none))) else none))) else none))) else none)))
set_option maxHeartbeats 4000000 in
set_option maxRecDepth 100000 in
theorem w_X8_noteLaying {adK adV : Nat → Nat} {tb : Nat} {p : Program} {l : Launch} {e : Env} {s : State} {m : MethodId} {args : Array Value} {below : List Frame} {meth : Method} {c : Code} {A : Nat → Prop} {G : WD}  {τ : HS} {i1 : Nat} {σ : HS}  (hG : GX G xY) (hO0 : Ob G xY 0 7) (hO1 : Ob G xY i1 0) (hC : Cx (xE adK adV tb) G.1 G.2.1 xY cX8_noteLaying 2 none RX8 wsX8_noteLaying p s m args meth c A) (h : c_X8_noteLaying i1 σ = some τ) : V p l e rmX8_noteLaying s m args below meth c 2 A G xY 0 0 (MQ below (QV G xY A τ) args s 0 0 A) σ 0 [(0, .ref (G.2.2.1 0)), (1, .ref (G.2.2.1 i1))] [] := by
  rw [c_X8_noteLaying] at h
  refine v_aload_n hC dX8_noteLaying_0 1 rfl ?_
  obtain ⟨s2, hc_1, h⟩ := bd1 h
  refine v_callVV hC xE_ok (n := 0) (As := []) (k_X0_survey l hG (hO1) hc_1) (cwV 0 hC.1.2.2.2.2 gX8_noteLaying_X0_survey rfl rfl rfl (by decide +kernel) ⟨(Nat.le_of_ble_eq_true rfl), (Nat.le_of_ble_eq_true rfl)⟩) hO1 (by decide) rfl rfl rfl (Nat.le_of_ble_eq_true rfl) ⟨Nat.zero_le _, Nat.zero_le _⟩ dX8_noteLaying_1 rfl ?_
  refine v_aload_n hC dX8_noteLaying_4 0 rfl ?_
  refine v_get (C := RX8) (T := TX8) (N := 20) (ci := 7) (k := 17) (v := .ref (G.2.2.1 16)) hC hO0 hi_X8_noteLaying_X8 rfl (by decide) (by decide) rfl rfl fl81_X8_noteLaying dX8_noteLaying_5 rfl ?_
  refine v_iconst (v := 1) hC dX8_noteLaying_8 (by decide) ?_
  refine v_aload_n hC dX8_noteLaying_9 1 rfl ?_
  refine v_getN (C := RX0) (T := TX0) (N := 5) (ci := 0) (k := 1) (v := .int (gI s2 i1 1)) hC hO1 hi_X8_noteLaying_X0 rfl (by decide) (by decide) rfl rfl (xE_nf_X8_124 hC.2.2.2.2.2) dX8_noteLaying_10 rfl ?_
  obtain ⟨g_3, h⟩ := gd h
  refine v_iast hC (obX_7_17 hG hO0).1 (obX_7_17 hG hO0).2 (t0 := 0) rfl g_3 dX8_noteLaying_13 ?_
  obtain ⟨s4, e5, h⟩ := ld h
  refine V.eq e5 ?_
  refine v_aload_n hC dX8_noteLaying_14 0 rfl ?_
  refine v_get (C := RX8) (T := TX8) (N := 20) (ci := 7) (k := 17) (v := .ref (G.2.2.1 16)) hC hO0 hi_X8_noteLaying_X8 rfl (by decide) (by decide) rfl rfl fl81_X8_noteLaying dX8_noteLaying_15 rfl ?_
  refine v_iconst (v := 3) hC dX8_noteLaying_18 (by decide) ?_
  refine v_aload_n hC dX8_noteLaying_19 1 rfl ?_
  refine v_getN (C := RX0) (T := TX0) (N := 5) (ci := 0) (k := 4) (v := .int (gI s4 i1 4)) hC hO1 hi_X8_noteLaying_X0 rfl (by decide) (by decide) rfl rfl (xE_nf_X8_167 hC.2.2.2.2.2) dX8_noteLaying_20 rfl ?_
  obtain ⟨g_6, h⟩ := gd h
  refine v_iast hC (obX_7_17 hG hO0).1 (obX_7_17 hG hO0).2 (t0 := 0) rfl g_6 dX8_noteLaying_23 ?_
  obtain ⟨s7, e8, h⟩ := ld h
  refine V.eq e8 ?_
  refine v_aload_n hC dX8_noteLaying_24 0 rfl ?_
  refine v_get (C := RX8) (T := TX8) (N := 20) (ci := 7) (k := 17) (v := .ref (G.2.2.1 16)) hC hO0 hi_X8_noteLaying_X8 rfl (by decide) (by decide) rfl rfl fl81_X8_noteLaying dX8_noteLaying_25 rfl ?_
  refine v_iconst (v := 4) hC dX8_noteLaying_28 (by decide) ?_
  refine v_aload_n hC dX8_noteLaying_29 1 rfl ?_
  refine v_getN (C := RX0) (T := TX0) (N := 5) (ci := 0) (k := 2) (v := .int (gI s7 i1 2)) hC hO1 hi_X8_noteLaying_X0 rfl (by decide) (by decide) rfl rfl (xE_nf_X8_161 hC.2.2.2.2.2) dX8_noteLaying_30 rfl ?_
  obtain ⟨g_9, h⟩ := gd h
  refine v_iast hC (obX_7_17 hG hO0).1 (obX_7_17 hG hO0).2 (t0 := 0) rfl g_9 dX8_noteLaying_33 ?_
  obtain ⟨s10, e11, h⟩ := ld h
  refine V.eq e11 ?_
  refine v_aload_n hC dX8_noteLaying_34 0 rfl ?_
  refine v_get (C := RX8) (T := TX8) (N := 20) (ci := 7) (k := 17) (v := .ref (G.2.2.1 16)) hC hO0 hi_X8_noteLaying_X8 rfl (by decide) (by decide) rfl rfl fl81_X8_noteLaying dX8_noteLaying_35 rfl ?_
  refine v_iconst (v := 5) hC dX8_noteLaying_38 (by decide) ?_
  refine v_aload_n hC dX8_noteLaying_39 1 rfl ?_
  refine v_getN (C := RX0) (T := TX0) (N := 5) (ci := 0) (k := 3) (v := .int (gI s10 i1 3)) hC hO1 hi_X8_noteLaying_X0 rfl (by decide) (by decide) rfl rfl (xE_nf_X8_164 hC.2.2.2.2.2) dX8_noteLaying_40 rfl ?_
  obtain ⟨g_12, h⟩ := gd h
  refine v_iast hC (obX_7_17 hG hO0).1 (obX_7_17 hG hO0).2 (t0 := 0) rfl g_12 dX8_noteLaying_43 ?_
  obtain ⟨s13, e14, h⟩ := ld h
  refine V.eq e14 ?_
  exact v_vret hC rfl dX8_noteLaying_44 h
theorem k_X8_noteLaying {adK adV : Nat → Nat} {tb : Nat} (l : Launch) {G : WD}  {τ : HS} {i1 : Nat} {σ : HS}  (hG : GX G xY) (hO0 : Ob G xY 0 7) (hO1 : Ob G xY i1 0) (h : c_X8_noteLaying i1 σ = some τ) : MV (xE adK adV tb) l yX8_noteLaying wsX8_noteLaying rmX8_noteLaying G xY [.ref (G.2.2.1 0), .ref (G.2.2.1 i1)] σ τ :=
  MV.of RX8 (by decide) rfl rfl (Nat.le_of_ble_eq_true rfl) rfl rfl (fun p e s m below meth c hC => w_X8_noteLaying  hG hO0 hO1 hC h)
abbrev rmX8_worth : Room := { frames := 3, cells := 0, slots := 0, locals := 69 }
def c_X8_worth (p1 : Int32) (σ : HS) : Option (Int32 × HS) := (if (gI σ 0 2) < 0 then (some (0, σ)) else (if (gI σ 0 12) ≤ (gI σ 0 2) then (some (0, σ)) else (if inb (gI σ 0 2) 6 = true then (mr (gR σ 11 (ix (gI σ 0 2))) (fun j5 => (bi2 (c_X6_worth j5 p1 σ) (fun r9 s8 => (some (r9, s8)))))) else none)))
set_option maxHeartbeats 4000000 in
set_option maxRecDepth 100000 in
theorem w_X8_worth {adK adV : Nat → Nat} {tb : Nat} {p : Program} {l : Launch} {e : Env} {s : State} {m : MethodId} {args : Array Value} {below : List Frame} {meth : Method} {c : Code} {A : Nat → Prop} {G : WD}  {r0 : Int32} {τ : HS} {p1 : Int32} {σ : HS}  (hG : GX G xY) (hO0 : Ob G xY 0 7) (hC : Cx (xE adK adV tb) G.1 G.2.1 xY cX8_worth 2 (some .int) RX8 wsX8_worth p s m args meth c A) (h : c_X8_worth p1 σ = some (r0, τ)) : V p l e rmX8_worth s m args below meth c 2 A G xY 0 0 (MQ below (QI G xY A r0 τ) args s 0 0 A) σ 0 [(0, .ref (G.2.2.1 0)), (1, .int p1)] [] := by
  rw [c_X8_worth] at h
  refine v_aload_n hC dX8_worth_0 0 rfl ?_
  refine v_get (C := RX8) (T := TX8) (N := 20) (ci := 7) (k := 2) (v := .int (gI σ 0 2)) hC hO0 hi_X8_worth_X8 rfl (by decide) (by decide) rfl rfl fl20_X8_worth dX8_worth_1 rfl ?_
  refine v_if_lt (tgt := 38) hC dX8_worth_4 (by decide) (fun c_1 => ?_) (fun c_1 => ?_)
  · replace h := ift c_1 h
    refine v_iconst (v := 0) hC dX8_worth_38 (by decide) ?_
    exact v_iret hC rfl dX8_worth_39 h
  · replace h := ifn c_1 h
    refine v_aload_n hC dX8_worth_7 0 rfl ?_
    refine v_get (C := RX8) (T := TX8) (N := 20) (ci := 7) (k := 2) (v := .int (gI σ 0 2)) hC hO0 hi_X8_worth_X8 rfl (by decide) (by decide) rfl rfl fl20_X8_worth dX8_worth_8 rfl ?_
    refine v_aload_n hC dX8_worth_11 0 rfl ?_
    refine v_get (C := RX8) (T := TX8) (N := 20) (ci := 7) (k := 12) (v := .int (gI σ 0 12)) hC hO0 hi_X8_worth_X8 rfl (by decide) (by decide) rfl rfl fl55_X8_worth dX8_worth_12 rfl ?_
    refine v_icmp_ge (tgt := 38) hC dX8_worth_15 (by decide) (fun c_2 => ?_) (fun c_2 => ?_)
    · replace h := ift c_2 h
      refine v_iconst (v := 0) hC dX8_worth_38 (by decide) ?_
      exact v_iret hC rfl dX8_worth_39 h
    · replace h := ifn c_2 h
      refine v_aload_n hC dX8_worth_18 0 rfl ?_
      refine v_get (C := RX8) (T := TX8) (N := 20) (ci := 7) (k := 11) (v := .ref (G.2.2.1 11)) hC hO0 hi_X8_worth_X8 rfl (by decide) (by decide) rfl rfl fl51_X8_worth dX8_worth_19 rfl ?_
      refine v_aload_n hC dX8_worth_22 0 rfl ?_
      refine v_get (C := RX8) (T := TX8) (N := 20) (ci := 7) (k := 2) (v := .int (gI σ 0 2)) hC hO0 hi_X8_worth_X8 rfl (by decide) (by decide) rfl rfl fl20_X8_worth dX8_worth_23 rfl ?_
      obtain ⟨g_3, h⟩ := gd h
      refine v_wt (fun hw_4 => ?_)
      refine v_aald hC (obX_7_11 hG hO0).1 (by decide) (obX_7_11 hG hO0).2 (t0 := 4) rfl g_3 dX8_worth_26 ?_
      refine v_iload_n hC dX8_worth_27 1 rfl ?_
      refine v_aload_n hC dX8_worth_28 0 rfl ?_
      refine v_get (C := RX8) (T := TX8) (N := 20) (ci := 7) (k := 17) (v := .ref (G.2.2.1 16)) hC hO0 hi_X8_worth_X8 rfl (by decide) (by decide) rfl rfl fl81_X8_worth dX8_worth_29 rfl ?_
      obtain ⟨j5, hj6, h⟩ := mrd h
      rw [hj6]
      rw [rv_s]
      obtain ⟨r9, s8, hc_7, h⟩ := bd2 h
      refine v_callVI hC xE_ok (n := 2) (As := [.int p1, .ref (G.2.2.1 16)]) (k_X6_worth l hG ((show Ob G xY j5 6 from (fun j hj => wt_ob hw_4 (obX_7_11 hG hO0).1 hj) j5 hj6)) ((obX_7_17 hG hO0).1) hc_7) (cwV 2 hC.1.2.2.2.2 gX8_worth_X6_worth rfl rfl rfl (by decide +kernel) ⟨(Nat.le_of_ble_eq_true rfl), (Nat.le_of_ble_eq_true rfl)⟩) (show Ob G xY j5 6 from (fun j hj => wt_ob hw_4 (obX_7_11 hG hO0).1 hj) j5 hj6) (by decide) rfl rfl rfl (Nat.le_of_ble_eq_true rfl) ⟨Nat.zero_le _, Nat.zero_le _⟩ dX8_worth_32 rfl ?_
      refine v_goto (tgt := 39) hC dX8_worth_35 (by decide) ?_
      exact v_iret hC rfl dX8_worth_39 h
theorem k_X8_worth {adK adV : Nat → Nat} {tb : Nat} (l : Launch) {G : WD}  {r0 : Int32} {τ : HS} {p1 : Int32} {σ : HS}  (hG : GX G xY) (hO0 : Ob G xY 0 7) (h : c_X8_worth p1 σ = some (r0, τ)) : MI (xE adK adV tb) l yX8_worth wsX8_worth rmX8_worth G xY [.ref (G.2.2.1 0), .int p1] σ r0 τ :=
  MI.of RX8 (by decide) rfl rfl (Nat.le_of_ble_eq_true rfl) rfl rfl (fun p e s m below meth c hC => w_X8_worth  hG hO0 hC h)
abbrev rmX8_bet : Room := { frames := 4, cells := 0, slots := 0, locals := 90 }
def c_X8_bet (σ : HS) : Option (Int32 × HS) := (bi1 (c_X8_noteLaying 1 σ) (fun s2 => (if inb 0 6 = true then (lt (sI s2 16 (ix 0) 0) (fun s4 => (if inb 2 6 = true then (lt (sI s4 16 (ix 2) 0) (fun s7 => (bi2 (c_X8_worth 2 s7) (fun r11 s10 => (some (r11, s10)))))) else none))) else none)))
set_option maxHeartbeats 4000000 in
set_option maxRecDepth 100000 in
theorem w_X8_bet {adK adV : Nat → Nat} {tb : Nat} {p : Program} {l : Launch} {e : Env} {s : State} {m : MethodId} {args : Array Value} {below : List Frame} {meth : Method} {c : Code} {A : Nat → Prop} {G : WD}  {r0 : Int32} {τ : HS}  {σ : HS}  (hG : GX G xY) (hO0 : Ob G xY 0 7) (hC : Cx (xE adK adV tb) G.1 G.2.1 xY cX8_bet 1 (some .int) RX8 wsX8_bet p s m args meth c A) (h : c_X8_bet  σ = some (r0, τ)) : V p l e rmX8_bet s m args below meth c 1 A G xY 0 0 (MQ below (QI G xY A r0 τ) args s 0 0 A) σ 0 [(0, .ref (G.2.2.1 0))] [] := by
  rw [c_X8_bet] at h
  refine v_aload_n hC dX8_bet_0 0 rfl ?_
  refine v_aload_n hC dX8_bet_1 0 rfl ?_
  refine v_get (C := RX8) (T := TX8) (N := 20) (ci := 7) (k := 0) (v := .ref (G.2.2.1 1)) hC hO0 hi_X8_bet_X8 rfl (by decide) (by decide) rfl rfl fl10_X8_bet dX8_bet_2 rfl ?_
  obtain ⟨s2, hc_1, h⟩ := bd1 h
  refine v_callVV hC xE_ok (n := 1) (As := [.ref (G.2.2.1 1)]) (k_X8_noteLaying l hG (hO0) ((obX_7_0 hG hO0)) hc_1) (cwV 1 hC.1.2.2.2.2 gX8_bet_X8_noteLaying rfl rfl rfl (by decide +kernel) ⟨(Nat.le_of_ble_eq_true rfl), (Nat.le_of_ble_eq_true rfl)⟩) hO0 (by decide) rfl rfl rfl (Nat.le_of_ble_eq_true rfl) ⟨Nat.zero_le _, Nat.zero_le _⟩ dX8_bet_5 rfl ?_
  refine v_aload_n hC dX8_bet_8 0 rfl ?_
  refine v_get (C := RX8) (T := TX8) (N := 20) (ci := 7) (k := 17) (v := .ref (G.2.2.1 16)) hC hO0 hi_X8_bet_X8 rfl (by decide) (by decide) rfl rfl fl81_X8_bet dX8_bet_9 rfl ?_
  refine v_iconst (v := 0) hC dX8_bet_12 (by decide) ?_
  refine v_iconst (v := 0) hC dX8_bet_13 (by decide) ?_
  obtain ⟨g_3, h⟩ := gd h
  refine v_iast hC (obX_7_17 hG hO0).1 (obX_7_17 hG hO0).2 (t0 := 0) rfl g_3 dX8_bet_14 ?_
  obtain ⟨s4, e5, h⟩ := ld h
  refine V.eq e5 ?_
  refine v_aload_n hC dX8_bet_15 0 rfl ?_
  refine v_get (C := RX8) (T := TX8) (N := 20) (ci := 7) (k := 17) (v := .ref (G.2.2.1 16)) hC hO0 hi_X8_bet_X8 rfl (by decide) (by decide) rfl rfl fl81_X8_bet dX8_bet_16 rfl ?_
  refine v_iconst (v := 2) hC dX8_bet_19 (by decide) ?_
  refine v_iconst (v := 0) hC dX8_bet_20 (by decide) ?_
  obtain ⟨g_6, h⟩ := gd h
  refine v_iast hC (obX_7_17 hG hO0).1 (obX_7_17 hG hO0).2 (t0 := 0) rfl g_6 dX8_bet_21 ?_
  obtain ⟨s7, e8, h⟩ := ld h
  refine V.eq e8 ?_
  refine v_aload_n hC dX8_bet_22 0 rfl ?_
  refine v_iconst (v := 2) hC dX8_bet_23 (by decide) ?_
  obtain ⟨r11, s10, hc_9, h⟩ := bd2 h
  refine v_callVI hC xE_ok (n := 1) (As := [.int 2]) (k_X8_worth l hG (hO0) hc_9) (cwV 1 hC.1.2.2.2.2 gX8_bet_X8_worth rfl rfl rfl (by decide +kernel) ⟨(Nat.le_of_ble_eq_true rfl), (Nat.le_of_ble_eq_true rfl)⟩) hO0 (by decide) rfl rfl rfl (Nat.le_of_ble_eq_true rfl) ⟨Nat.zero_le _, Nat.zero_le _⟩ dX8_bet_24 rfl ?_
  exact v_iret hC rfl dX8_bet_27 h
theorem k_X8_bet {adK adV : Nat → Nat} {tb : Nat} (l : Launch) {G : WD}  {r0 : Int32} {τ : HS}  {σ : HS}  (hG : GX G xY) (hO0 : Ob G xY 0 7) (h : c_X8_bet  σ = some (r0, τ)) : MI (xE adK adV tb) l yX8_bet wsX8_bet rmX8_bet G xY [.ref (G.2.2.1 0)] σ r0 τ :=
  MI.of RX8 (by decide) rfl rfl (Nat.le_of_ble_eq_true rfl) rfl rfl (fun p e s m below meth c hC => w_X8_bet  hG hO0 hC h)
abbrev rmX8_planAt : Room := { frames := 0, cells := 0, slots := 0, locals := 0 }
def c_X8_planAt (p1 : Int32) (σ : HS) : Option (Option Nat × HS) := (if p1 < 0 then (some (none, σ)) else (if (gI σ 0 8) ≤ p1 then (some (none, σ)) else (if inb p1 8 = true then (some ((gR σ 7 (ix p1)), σ)) else none)))
set_option maxHeartbeats 4000000 in
set_option maxRecDepth 100000 in
theorem w_X8_planAt {adK adV : Nat → Nat} {tb : Nat} {p : Program} {l : Launch} {e : Env} {s : State} {m : MethodId} {args : Array Value} {below : List Frame} {meth : Method} {c : Code} {A : Nat → Prop} {G : WD}  {r0 : Option Nat} {τ : HS} {p1 : Int32} {σ : HS}  (hG : GX G xY) (hO0 : Ob G xY 0 7) (hC : Cx (xE adK adV tb) G.1 G.2.1 xY cX8_planAt 2 (some (.object "HundredBoxes$Plan")) RX8 wsX8_planAt p s m args meth c A) (h : c_X8_planAt p1 σ = some (r0, τ)) : V p l e rmX8_planAt s m args below meth c 2 A G xY 0 0 (MQ below (QR G xY A r0 τ) args s 0 0 A) σ 0 [(0, .ref (G.2.2.1 0)), (1, .int p1)] [] := by
  rw [c_X8_planAt] at h
  refine v_iload_n hC dX8_planAt_0 1 rfl ?_
  refine v_if_lt (tgt := 21) hC dX8_planAt_1 (by decide) (fun c_1 => ?_) (fun c_1 => ?_)
  · replace h := ift c_1 h
    refine v_null hC dX8_planAt_21 ?_
    exact v_aret (o := none) hC rfl (Or.inl ⟨_, rfl⟩) dX8_planAt_22 h
  · replace h := ifn c_1 h
    refine v_iload_n hC dX8_planAt_4 1 rfl ?_
    refine v_aload_n hC dX8_planAt_5 0 rfl ?_
    refine v_get (C := RX8) (T := TX8) (N := 20) (ci := 7) (k := 8) (v := .int (gI σ 0 8)) hC hO0 hi_X8_planAt_X8 rfl (by decide) (by decide) rfl rfl fl36_X8_planAt dX8_planAt_6 rfl ?_
    refine v_icmp_ge (tgt := 21) hC dX8_planAt_9 (by decide) (fun c_2 => ?_) (fun c_2 => ?_)
    · replace h := ift c_2 h
      refine v_null hC dX8_planAt_21 ?_
      exact v_aret (o := none) hC rfl (Or.inl ⟨_, rfl⟩) dX8_planAt_22 h
    · replace h := ifn c_2 h
      refine v_aload_n hC dX8_planAt_12 0 rfl ?_
      refine v_get (C := RX8) (T := TX8) (N := 20) (ci := 7) (k := 7) (v := .ref (G.2.2.1 7)) hC hO0 hi_X8_planAt_X8 rfl (by decide) (by decide) rfl rfl fl32_X8_planAt dX8_planAt_13 rfl ?_
      refine v_iload_n hC dX8_planAt_16 1 rfl ?_
      obtain ⟨g_3, h⟩ := gd h
      refine v_wt (fun hw_4 => ?_)
      refine v_aald hC (obX_7_7 hG hO0).1 (by decide) (obX_7_7 hG hO0).2 (t0 := 2) rfl g_3 dX8_planAt_17 ?_
      refine v_goto (tgt := 22) hC dX8_planAt_18 (by decide) ?_
      exact v_aret (o := (gR σ 7 (ix p1))) hC rfl (Or.inl ⟨_, rfl⟩) dX8_planAt_22 h
theorem k_X8_planAt {adK adV : Nat → Nat} {tb : Nat} (l : Launch) {G : WD}  {r0 : Option Nat} {τ : HS} {p1 : Int32} {σ : HS}  (hG : GX G xY) (hO0 : Ob G xY 0 7) (h : c_X8_planAt p1 σ = some (r0, τ)) : MR (xE adK adV tb) l yX8_planAt wsX8_planAt rmX8_planAt G xY [.ref (G.2.2.1 0), .int p1] σ r0 τ :=
  MR.of RX8 (by decide) rfl rfl (Nat.le_of_ble_eq_true rfl) rfl rfl (fun p e s m below meth c hC => w_X8_planAt  hG hO0 hC h)
theorem rok_planAt {G : WD} {p1 : Int32} {σ s : HS} {r : Option Nat} (hG : GX G xY) (hO0 : Ob G xY 0 7) (hv : wt G xY s) (hc : c_X8_planAt p1 σ = some (r, s)) : ∀ j, r = some j → Ob G xY j 1 := by
  intro j hj
  subst hj
  rw [c_X8_planAt] at hc
  split at hc
  · cases hc
  split at hc
  · cases hc
  obtain ⟨g, hc⟩ := gd hc
  simp only [Option.some.injEq, Prod.mk.injEq] at hc
  obtain ⟨h1, h2⟩ := hc
  subst h2
  exact wt_ob hv (obX_7_7 hG hO0).1 h1

abbrev rmX8_next : Room := { frames := 1, cells := 0, slots := 0, locals := 25 }
def c_X8_next (p1 : Int32) (p2 : Int32) (p3 : Int32) (p4 : Int32) (σ : HS) : Option (Int32 × HS) := (bi2 (c_X8_planAt p1 σ) (fun r3 s2 => (mo r3 (some ((-2), s2)) (fun j5 => (bi2 (c_X0_has 1 p2 s2) (fun r8 s7 => (if r8 = 0 then (some ((-2), s7)) else (if p4 < 0 then (some ((-2), s7)) else (if p4 ≤ 12 then (if p4 = 0 then (bi2 (c_X1_firstBox j5 p2 (gI s7 1 1) s7) (fun r25 s24 => (some (r25, s24)))) else (bi2 (c_X0_has 1 p3 s7) (fun r15 s14 => (if r15 = 0 then (some ((-2), s14)) else (bi2 (c_X0_at 1 p3 s14) (fun r19 s18 => (bi2 (c_X1_boxBehind j5 p3 r19 p4 (gI s18 1 1) s18) (fun r22 s21 => (some (r22, s21)))))))))) else (some ((-2), s7)))))))))))
set_option maxHeartbeats 4000000 in
set_option maxRecDepth 100000 in
theorem w_X8_next {adK adV : Nat → Nat} {tb : Nat} {p : Program} {l : Launch} {e : Env} {s : State} {m : MethodId} {args : Array Value} {below : List Frame} {meth : Method} {c : Code} {A : Nat → Prop} {G : WD}  {r0 : Int32} {τ : HS} {p1 : Int32} {p2 : Int32} {p3 : Int32} {p4 : Int32} {σ : HS}  (hG : GX G xY) (hO0 : Ob G xY 0 7) (hC : Cx (xE adK adV tb) G.1 G.2.1 xY cX8_next 6 (some .int) RX8 wsX8_next p s m args meth c A) (h : c_X8_next p1 p2 p3 p4 σ = some (r0, τ)) : V p l e rmX8_next s m args below meth c 6 A G xY 0 0 (MQ below (QI G xY A r0 τ) args s 0 0 A) σ 0 [(0, .ref (G.2.2.1 0)), (1, .int p1), (2, .int p2), (3, .int p3), (4, .int p4)] [] := by
  rw [c_X8_next] at h
  refine v_aload_n hC dX8_next_0 0 rfl ?_
  refine v_iload_n hC dX8_next_1 1 rfl ?_
  obtain ⟨r3, s2, hc_1, h⟩ := bd2 h
  refine v_callVR hC xE_ok (n := 1) (As := [.int p1]) (k_X8_planAt l hG (hO0) hc_1) (cwV 1 hC.1.2.2.2.2 gX8_next_X8_planAt rfl rfl rfl (by decide +kernel) ⟨(Nat.le_of_ble_eq_true rfl), (Nat.le_of_ble_eq_true rfl)⟩) hO0 (by decide) rfl rfl rfl (Nat.le_of_ble_eq_true rfl) ⟨Nat.zero_le _, Nat.zero_le _⟩ dX8_next_2 rfl ?_
  refine v_wt (fun hv_4 => ?_)
  refine v_astoreR (L' := [(0, .ref (G.2.2.1 0)), (2, .int p2), (3, .int p3), (4, .int p4), (5, rv G.2.2.1 r3)]) hC dX8_next_5 (by decide) [1, 3, 4, 5, 0] rfl ?_
  refine v_aloadR hC dX8_next_7 4 rfl ?_
  cases r3 with
  | none =>
    replace h := mo_n h
    refine v_ifnull_t (tgt := 35) hC dX8_next_9 (by decide) ?_
    refine v_bipush (v := (-2)) hC dX8_next_35 (by decide) ?_
    exact v_iret hC rfl dX8_next_37 h
  | some j5 =>
    replace h := mo_s h
    refine v_ifnull_f hC dX8_next_9 ?_
    refine V.sub (L' := [(0, .ref (G.2.2.1 0)), (2, .int p2), (3, .int p3), (4, .int p4), (5, .ref (G.2.2.1 j5))]) [0, 1, 2, 3, 4] rfl ?_
    refine v_aload_n hC dX8_next_12 0 rfl ?_
    refine v_get (C := RX8) (T := TX8) (N := 20) (ci := 7) (k := 0) (v := .ref (G.2.2.1 1)) hC hO0 hi_X8_next_X8 rfl (by decide) (by decide) rfl rfl fl10_X8_next dX8_next_13 rfl ?_
    refine v_iload_n hC dX8_next_16 1 rfl ?_
    obtain ⟨r8, s7, hc_6, h⟩ := bd2 h
    refine v_callVI hC xE_ok (n := 1) (As := [.int p2]) (k_X0_has l hG ((obX_7_0 hG hO0)) hc_6) (cwV 1 hC.1.2.2.2.2 gX8_next_X0_has rfl rfl rfl (by decide +kernel) ⟨(Nat.le_of_ble_eq_true rfl), (Nat.le_of_ble_eq_true rfl)⟩) (obX_7_0 hG hO0) (by decide) rfl rfl rfl (Nat.le_of_ble_eq_true rfl) ⟨Nat.zero_le _, Nat.zero_le _⟩ dX8_next_17 rfl ?_
    refine v_if_eq (tgt := 35) hC dX8_next_20 (by decide) (fun c_9 => ?_) (fun c_9 => ?_)
    · replace h := ift c_9 h
      refine v_bipush (v := (-2)) hC dX8_next_35 (by decide) ?_
      exact v_iret hC rfl dX8_next_37 h
    · replace h := ifn c_9 h
      refine v_iload hC dX8_next_23 3 rfl ?_
      refine v_if_lt (tgt := 35) hC dX8_next_25 (by decide) (fun c_10 => ?_) (fun c_10 => ?_)
      · replace h := ift c_10 h
        refine v_bipush (v := (-2)) hC dX8_next_35 (by decide) ?_
        exact v_iret hC rfl dX8_next_37 h
      · replace h := ifn c_10 h
        refine v_iload hC dX8_next_28 3 rfl ?_
        refine v_bipush (v := 12) hC dX8_next_30 (by decide) ?_
        refine v_icmp_le (tgt := 38) hC dX8_next_32 (by decide) (fun c_11 => ?_) (fun c_11 => ?_)
        · replace h := ift c_11 h
          refine v_iload hC dX8_next_38 3 rfl ?_
          refine v_if_ne (tgt := 57) hC dX8_next_40 (by decide) (fun c_12 => ?_) (fun c_12 => ?_)
          · replace h := ifn c_12 h
            refine v_aload_n hC dX8_next_57 0 rfl ?_
            refine v_get (C := RX8) (T := TX8) (N := 20) (ci := 7) (k := 0) (v := .ref (G.2.2.1 1)) hC hO0 hi_X8_next_X8 rfl (by decide) (by decide) rfl rfl fl10_X8_next dX8_next_58 rfl ?_
            refine v_iload_n hC dX8_next_61 2 rfl ?_
            obtain ⟨r15, s14, hc_13, h⟩ := bd2 h
            refine v_callVI hC xE_ok (n := 1) (As := [.int p3]) (k_X0_has l hG ((obX_7_0 hG hO0)) hc_13) (cwV 1 hC.1.2.2.2.2 gX8_next_X0_has rfl rfl rfl (by decide +kernel) ⟨(Nat.le_of_ble_eq_true rfl), (Nat.le_of_ble_eq_true rfl)⟩) (obX_7_0 hG hO0) (by decide) rfl rfl rfl (Nat.le_of_ble_eq_true rfl) ⟨Nat.zero_le _, Nat.zero_le _⟩ dX8_next_62 rfl ?_
            refine v_if_ne (tgt := 71) hC dX8_next_65 (by decide) (fun c_16 => ?_) (fun c_16 => ?_)
            · replace h := ifn c_16 h
              refine v_aload hC dX8_next_71 4 rfl ?_
              refine v_iload_n hC dX8_next_73 2 rfl ?_
              refine v_aload_n hC dX8_next_74 0 rfl ?_
              refine v_get (C := RX8) (T := TX8) (N := 20) (ci := 7) (k := 0) (v := .ref (G.2.2.1 1)) hC hO0 hi_X8_next_X8 rfl (by decide) (by decide) rfl rfl fl10_X8_next dX8_next_75 rfl ?_
              refine v_iload_n hC dX8_next_78 2 rfl ?_
              obtain ⟨r19, s18, hc_17, h⟩ := bd2 h
              refine v_callVI hC xE_ok (n := 1) (As := [.int p3]) (k_X0_at l hG ((obX_7_0 hG hO0)) hc_17) (cwV 1 hC.1.2.2.2.2 gX8_next_X0_at rfl rfl rfl (by decide +kernel) ⟨(Nat.le_of_ble_eq_true rfl), (Nat.le_of_ble_eq_true rfl)⟩) (obX_7_0 hG hO0) (by decide) rfl rfl rfl (Nat.le_of_ble_eq_true rfl) ⟨Nat.zero_le _, Nat.zero_le _⟩ dX8_next_79 rfl ?_
              refine v_iload hC dX8_next_82 3 rfl ?_
              refine v_aload_n hC dX8_next_84 0 rfl ?_
              refine v_get (C := RX8) (T := TX8) (N := 20) (ci := 7) (k := 0) (v := .ref (G.2.2.1 1)) hC hO0 hi_X8_next_X8 rfl (by decide) (by decide) rfl rfl fl10_X8_next dX8_next_85 rfl ?_
              refine v_getN (C := RX0) (T := TX0) (N := 5) (ci := 0) (k := 1) (v := .int (gI s18 1 1)) hC (obX_7_0 hG hO0) hi_X8_next_X0 rfl (by decide) (by decide) rfl rfl (xE_nf_X8_124 hC.2.2.2.2.2) dX8_next_88 rfl ?_
              obtain ⟨r22, s21, hc_20, h⟩ := bd2 h
              refine v_callVI hC xE_ok (n := 4) (As := [.int p3, .int r19, .int p4, .int (gI s18 1 1)]) (k_X1_boxBehind l hG ((show Ob G xY j5 1 from (rok_planAt hG (hO0) hv_4 hc_1) j5 rfl)) hc_20) (cwV 4 hC.1.2.2.2.2 gX8_next_X1_boxBehind rfl rfl rfl (by decide +kernel) ⟨(Nat.le_of_ble_eq_true rfl), (Nat.le_of_ble_eq_true rfl)⟩) (show Ob G xY j5 1 from (rok_planAt hG (hO0) hv_4 hc_1) j5 rfl) (by decide) rfl rfl rfl (Nat.le_of_ble_eq_true rfl) ⟨Nat.zero_le _, Nat.zero_le _⟩ dX8_next_91 rfl ?_
              exact v_iret hC rfl dX8_next_94 h
            · replace h := ift c_16 h
              refine v_bipush (v := (-2)) hC dX8_next_68 (by decide) ?_
              exact v_iret hC rfl dX8_next_70 h
          · replace h := ift c_12 h
            refine v_aload hC dX8_next_43 4 rfl ?_
            refine v_iload_n hC dX8_next_45 1 rfl ?_
            refine v_aload_n hC dX8_next_46 0 rfl ?_
            refine v_get (C := RX8) (T := TX8) (N := 20) (ci := 7) (k := 0) (v := .ref (G.2.2.1 1)) hC hO0 hi_X8_next_X8 rfl (by decide) (by decide) rfl rfl fl10_X8_next dX8_next_47 rfl ?_
            refine v_getN (C := RX0) (T := TX0) (N := 5) (ci := 0) (k := 1) (v := .int (gI s7 1 1)) hC (obX_7_0 hG hO0) hi_X8_next_X0 rfl (by decide) (by decide) rfl rfl (xE_nf_X8_124 hC.2.2.2.2.2) dX8_next_50 rfl ?_
            obtain ⟨r25, s24, hc_23, h⟩ := bd2 h
            refine v_callVI hC xE_ok (n := 2) (As := [.int p2, .int (gI s7 1 1)]) (k_X1_firstBox l hG ((show Ob G xY j5 1 from (rok_planAt hG (hO0) hv_4 hc_1) j5 rfl)) hc_23) (cwV 2 hC.1.2.2.2.2 gX8_next_X1_firstBox rfl rfl rfl (by decide +kernel) ⟨(Nat.le_of_ble_eq_true rfl), (Nat.le_of_ble_eq_true rfl)⟩) (show Ob G xY j5 1 from (rok_planAt hG (hO0) hv_4 hc_1) j5 rfl) (by decide) rfl rfl rfl (Nat.le_of_ble_eq_true rfl) ⟨Nat.zero_le _, Nat.zero_le _⟩ dX8_next_53 rfl ?_
            exact v_iret hC rfl dX8_next_56 h
        · replace h := ifn c_11 h
          refine v_bipush (v := (-2)) hC dX8_next_35 (by decide) ?_
          exact v_iret hC rfl dX8_next_37 h
theorem k_X8_next {adK adV : Nat → Nat} {tb : Nat} (l : Launch) {G : WD}  {r0 : Int32} {τ : HS} {p1 : Int32} {p2 : Int32} {p3 : Int32} {p4 : Int32} {σ : HS}  (hG : GX G xY) (hO0 : Ob G xY 0 7) (h : c_X8_next p1 p2 p3 p4 σ = some (r0, τ)) : MI (xE adK adV tb) l yX8_next wsX8_next rmX8_next G xY [.ref (G.2.2.1 0), .int p1, .int p2, .int p3, .int p4] σ r0 τ :=
  MI.of RX8 (by decide) rfl rfl (Nat.le_of_ble_eq_true rfl) rfl rfl (fun p e s m below meth c hC => w_X8_next  hG hO0 hC h)
abbrev rmX8_looksOfEach : Room := { frames := 1, cells := 0, slots := 0, locals := 30 }
def c_X8_looksOfEach (σ : HS) : Option (Int32 × HS) := (some ((jxmin (gI σ 0 1) (gI σ 1 1)), σ))
set_option maxHeartbeats 4000000 in
set_option maxRecDepth 100000 in
theorem w_X8_looksOfEach {adK adV : Nat → Nat} {tb : Nat} {p : Program} {l : Launch} {e : Env} {s : State} {m : MethodId} {args : Array Value} {below : List Frame} {meth : Method} {c : Code} {A : Nat → Prop} {G : WD}  {r0 : Int32} {τ : HS}  {σ : HS}  (hG : GX G xY) (hO0 : Ob G xY 0 7) (hC : Cx (xE adK adV tb) G.1 G.2.1 xY cX8_looksOfEach 1 (some .int) RX8 wsX8_looksOfEach p s m args meth c A) (h : c_X8_looksOfEach  σ = some (r0, τ)) : V p l e rmX8_looksOfEach s m args below meth c 1 A G xY 0 0 (MQ below (QI G xY A r0 τ) args s 0 0 A) σ 0 [(0, .ref (G.2.2.1 0))] [] := by
  rw [c_X8_looksOfEach] at h
  refine v_aload_n hC dX8_looksOfEach_0 0 rfl ?_
  refine v_get (C := RX8) (T := TX8) (N := 20) (ci := 7) (k := 1) (v := .int (gI σ 0 1)) hC hO0 hi_X8_looksOfEach_X8 rfl (by decide) (by decide) rfl rfl fl16_X8_looksOfEach dX8_looksOfEach_1 rfl ?_
  refine v_aload_n hC dX8_looksOfEach_4 0 rfl ?_
  refine v_get (C := RX8) (T := TX8) (N := 20) (ci := 7) (k := 0) (v := .ref (G.2.2.1 1)) hC hO0 hi_X8_looksOfEach_X8 rfl (by decide) (by decide) rfl rfl fl10_X8_looksOfEach dX8_looksOfEach_5 rfl ?_
  refine v_getN (C := RX0) (T := TX0) (N := 5) (ci := 0) (k := 1) (v := .int (gI σ 1 1)) hC (obX_7_0 hG hO0) hi_X8_looksOfEach_X0 rfl (by decide) (by decide) rfl rfl (xE_nf_X8_124 hC.2.2.2.2.2) dX8_looksOfEach_8 rfl ?_
  refine v_min hC mx204_X8_looksOfEach.1 mx204_X8_looksOfEach.2.1 mx204_X8_looksOfEach.2.2.1 mx204_X8_looksOfEach.2.2.2 (Nat.le_of_ble_eq_true rfl) (Nat.le_of_ble_eq_true rfl) ⟨Nat.zero_le _, Nat.zero_le _⟩ dX8_looksOfEach_11 ?_
  exact v_iret hC rfl dX8_looksOfEach_14 h
theorem k_X8_looksOfEach {adK adV : Nat → Nat} {tb : Nat} (l : Launch) {G : WD}  {r0 : Int32} {τ : HS}  {σ : HS}  (hG : GX G xY) (hO0 : Ob G xY 0 7) (h : c_X8_looksOfEach  σ = some (r0, τ)) : MI (xE adK adV tb) l yX8_looksOfEach wsX8_looksOfEach rmX8_looksOfEach G xY [.ref (G.2.2.1 0)] σ r0 τ :=
  MI.of RX8 (by decide) rfl rfl (Nat.le_of_ble_eq_true rfl) rfl rfl (fun p e s m below meth c hC => w_X8_looksOfEach  hG hO0 hC h)
abbrev rmX8_found : Room := { frames := 2, cells := 0, slots := 0, locals := 52 }
def c_X8_found (p1 : Int32) (p2 : Int32) (σ : HS) : Option (Int32 × HS) := (bi2 (c_X8_planAt p1 σ) (fun r3 s2 => (mo r3 (some ((-2), s2)) (fun j5 => (bi2 (c_X0_has 1 p2 s2) (fun r8 s7 => (if r8 = 0 then (some ((-2), s7)) else (bi2 (c_X8_looksOfEach s7) (fun r12 s11 => (bi2 (c_X1_lookThatFinds j5 1 p2 r12 s11) (fun r15 s14 => (some (r15, s14)))))))))))))
set_option maxHeartbeats 4000000 in
set_option maxRecDepth 100000 in
theorem w_X8_found {adK adV : Nat → Nat} {tb : Nat} {p : Program} {l : Launch} {e : Env} {s : State} {m : MethodId} {args : Array Value} {below : List Frame} {meth : Method} {c : Code} {A : Nat → Prop} {G : WD}  {r0 : Int32} {τ : HS} {p1 : Int32} {p2 : Int32} {σ : HS}  (hG : GX G xY) (hO0 : Ob G xY 0 7) (hC : Cx (xE adK adV tb) G.1 G.2.1 xY cX8_found 4 (some .int) RX8 wsX8_found p s m args meth c A) (h : c_X8_found p1 p2 σ = some (r0, τ)) : V p l e rmX8_found s m args below meth c 4 A G xY 0 0 (MQ below (QI G xY A r0 τ) args s 0 0 A) σ 0 [(0, .ref (G.2.2.1 0)), (1, .int p1), (2, .int p2)] [] := by
  rw [c_X8_found] at h
  refine v_aload_n hC dX8_found_0 0 rfl ?_
  refine v_iload_n hC dX8_found_1 1 rfl ?_
  obtain ⟨r3, s2, hc_1, h⟩ := bd2 h
  refine v_callVR hC xE_ok (n := 1) (As := [.int p1]) (k_X8_planAt l hG (hO0) hc_1) (cwV 1 hC.1.2.2.2.2 gX8_found_X8_planAt rfl rfl rfl (by decide +kernel) ⟨(Nat.le_of_ble_eq_true rfl), (Nat.le_of_ble_eq_true rfl)⟩) hO0 (by decide) rfl rfl rfl (Nat.le_of_ble_eq_true rfl) ⟨Nat.zero_le _, Nat.zero_le _⟩ dX8_found_2 rfl ?_
  refine v_wt (fun hv_4 => ?_)
  refine v_astore_nR (L' := [(0, .ref (G.2.2.1 0)), (2, .int p2), (3, rv G.2.2.1 r3)]) hC dX8_found_5 (by decide) [1, 3, 0] rfl ?_
  refine v_aload_nR hC dX8_found_6 2 rfl ?_
  cases r3 with
  | none =>
    replace h := mo_n h
    refine v_ifnull_t (tgt := 21) hC dX8_found_7 (by decide) ?_
    refine v_bipush (v := (-2)) hC dX8_found_21 (by decide) ?_
    exact v_iret hC rfl dX8_found_23 h
  | some j5 =>
    replace h := mo_s h
    refine v_ifnull_f hC dX8_found_7 ?_
    refine V.sub (L' := [(0, .ref (G.2.2.1 0)), (2, .int p2), (3, .ref (G.2.2.1 j5))]) [0, 1, 2] rfl ?_
    refine v_aload_n hC dX8_found_10 0 rfl ?_
    refine v_get (C := RX8) (T := TX8) (N := 20) (ci := 7) (k := 0) (v := .ref (G.2.2.1 1)) hC hO0 hi_X8_found_X8 rfl (by decide) (by decide) rfl rfl fl10_X8_found dX8_found_11 rfl ?_
    refine v_iload_n hC dX8_found_14 1 rfl ?_
    obtain ⟨r8, s7, hc_6, h⟩ := bd2 h
    refine v_callVI hC xE_ok (n := 1) (As := [.int p2]) (k_X0_has l hG ((obX_7_0 hG hO0)) hc_6) (cwV 1 hC.1.2.2.2.2 gX8_found_X0_has rfl rfl rfl (by decide +kernel) ⟨(Nat.le_of_ble_eq_true rfl), (Nat.le_of_ble_eq_true rfl)⟩) (obX_7_0 hG hO0) (by decide) rfl rfl rfl (Nat.le_of_ble_eq_true rfl) ⟨Nat.zero_le _, Nat.zero_le _⟩ dX8_found_15 rfl ?_
    refine v_if_ne (tgt := 24) hC dX8_found_18 (by decide) (fun c_9 => ?_) (fun c_9 => ?_)
    · replace h := ifn c_9 h
      refine v_aload_n hC dX8_found_24 2 rfl ?_
      refine v_aload_n hC dX8_found_25 0 rfl ?_
      refine v_get (C := RX8) (T := TX8) (N := 20) (ci := 7) (k := 0) (v := .ref (G.2.2.1 1)) hC hO0 hi_X8_found_X8 rfl (by decide) (by decide) rfl rfl fl10_X8_found dX8_found_26 rfl ?_
      refine v_iload_n hC dX8_found_29 1 rfl ?_
      refine v_aload_n hC dX8_found_30 0 rfl ?_
      obtain ⟨r12, s11, hc_10, h⟩ := bd2 h
      refine v_callVI hC xE_ok (n := 0) (As := []) (k_X8_looksOfEach l hG (hO0) hc_10) (cwV 0 hC.1.2.2.2.2 gX8_found_X8_looksOfEach rfl rfl rfl (by decide +kernel) ⟨(Nat.le_of_ble_eq_true rfl), (Nat.le_of_ble_eq_true rfl)⟩) hO0 (by decide) rfl rfl rfl (Nat.le_of_ble_eq_true rfl) ⟨Nat.zero_le _, Nat.zero_le _⟩ dX8_found_31 rfl ?_
      obtain ⟨r15, s14, hc_13, h⟩ := bd2 h
      refine v_callVI hC xE_ok (n := 3) (As := [.ref (G.2.2.1 1), .int p2, .int r12]) (k_X1_lookThatFinds l hG ((show Ob G xY j5 1 from (rok_planAt hG (hO0) hv_4 hc_1) j5 rfl)) ((obX_7_0 hG hO0)) hc_13) (cwV 3 hC.1.2.2.2.2 gX8_found_X1_lookThatFinds rfl rfl rfl (by decide +kernel) ⟨(Nat.le_of_ble_eq_true rfl), (Nat.le_of_ble_eq_true rfl)⟩) (show Ob G xY j5 1 from (rok_planAt hG (hO0) hv_4 hc_1) j5 rfl) (by decide) rfl rfl rfl (Nat.le_of_ble_eq_true rfl) ⟨Nat.zero_le _, Nat.zero_le _⟩ dX8_found_34 rfl ?_
      exact v_iret hC rfl dX8_found_37 h
    · replace h := ift c_9 h
      refine v_bipush (v := (-2)) hC dX8_found_21 (by decide) ?_
      exact v_iret hC rfl dX8_found_23 h
theorem k_X8_found {adK adV : Nat → Nat} {tb : Nat} (l : Launch) {G : WD}  {r0 : Int32} {τ : HS} {p1 : Int32} {p2 : Int32} {σ : HS}  (hG : GX G xY) (hO0 : Ob G xY 0 7) (h : c_X8_found p1 p2 σ = some (r0, τ)) : MI (xE adK adV tb) l yX8_found wsX8_found rmX8_found G xY [.ref (G.2.2.1 0), .int p1, .int p2] σ r0 τ :=
  MI.of RX8 (by decide) rfl rfl (Nat.le_of_ble_eq_true rfl) rfl rfl (fun p e s m below meth c hC => w_X8_found  hG hO0 hC h)
abbrev rmX8_noteRun : Room := { frames := 2, cells := 0, slots := 0, locals := 52 }
def c_X8_noteRun_57 (k14 : Int32 → Int32 → Int32 → Int32 → HS → Option HS) (i1 : Nat) (i2 : Nat) (x3 : Int32) (x4 : Int32) (x5 : Int32) (x6 : Int32) (σ : HS) : Option HS := (k14 x3 x4 x5 (x6 + 1) σ)
set_option maxHeartbeats 4000000 in
set_option maxRecDepth 100000 in
theorem w_X8_noteRun_57 {adK adV : Nat → Nat} {tb : Nat} {p : Program} {l : Launch} {e : Env} {s : State} {m : MethodId} {args : Array Value} {below : List Frame} {meth : Method} {c : Code} {A : Nat → Prop} {G : WD}  {τ : HS} {i1 : Nat} {i2 : Nat} {k14 : Int32 → Int32 → Int32 → Int32 → HS → Option HS} {x3 : Int32} {x4 : Int32} {x5 : Int32} {x6 : Int32} {σ : HS}  (hG : GX G xY) (hO0 : Ob G xY 0 7) (hO1 : Ob G xY i1 1) (hO2 : Ob G xY i2 0) (hC : Cx (xE adK adV tb) G.1 G.2.1 xY cX8_noteRun 8 none RX8 wsX8_noteRun p s m args meth c A) (hk14 : ∀ (x3 : Int32) (x4 : Int32) (x5 : Int32) (x6 : Int32) (σ : HS), k14 x3 x4 x5 x6 σ = some τ → V p l e rmX8_noteRun s m args below meth c 8 A G xY 0 0 (MQ below (QV G xY A τ) args s 0 0 A) σ 14 [(0, .ref (G.2.2.1 0)), (1, .ref (G.2.2.1 i1)), (2, .ref (G.2.2.1 i2)), (3, .int x3), (4, .int x4), (5, .int x5), (6, .int x6)] []) (h : c_X8_noteRun_57 k14 i1 i2 x3 x4 x5 x6 σ = some τ) : V p l e rmX8_noteRun s m args below meth c 8 A G xY 0 0 (MQ below (QV G xY A τ) args s 0 0 A) σ 57 [(0, .ref (G.2.2.1 0)), (1, .ref (G.2.2.1 i1)), (2, .ref (G.2.2.1 i2)), (3, .int x3), (4, .int x4), (5, .int x5), (6, .int x6)] [] := by
  rw [c_X8_noteRun_57] at h
  refine v_iinc (v := (x6 + 1)) (L' := [(0, .ref (G.2.2.1 0)), (1, .ref (G.2.2.1 i1)), (2, .ref (G.2.2.1 i2)), (3, .int x3), (4, .int x4), (5, .int x5), (6, .int (x6 + 1))]) hC dX8_noteRun_57 6 rfl rfl (by decide) [1, 2, 3, 4, 5, 6, 0] rfl ?_
  refine v_goto (tgt := 14) hC dX8_noteRun_60 (by decide) ?_
  exact hk14 _ _ _ _ _ h
def c_X8_noteRun_63 (x4 : Int32) (x5 : Int32) (σ : HS) : Option HS := (if inb 0 6 = true then (lt (sI σ 16 (ix 0) x4) (fun s10 => (if inb 2 6 = true then (lt (sI s10 16 (ix 2) x5) (fun s13 => (some s13))) else none))) else none)
set_option maxHeartbeats 4000000 in
set_option maxRecDepth 100000 in
theorem w_X8_noteRun_63 {adK adV : Nat → Nat} {tb : Nat} {p : Program} {l : Launch} {e : Env} {s : State} {m : MethodId} {args : Array Value} {below : List Frame} {meth : Method} {c : Code} {A : Nat → Prop} {G : WD}  {τ : HS}  {x4 : Int32} {x5 : Int32} {σ : HS}  (hG : GX G xY) (hO0 : Ob G xY 0 7) (hC : Cx (xE adK adV tb) G.1 G.2.1 xY cX8_noteRun 8 none RX8 wsX8_noteRun p s m args meth c A)  (h : c_X8_noteRun_63 x4 x5 σ = some τ) : V p l e rmX8_noteRun s m args below meth c 8 A G xY 0 0 (MQ below (QV G xY A τ) args s 0 0 A) σ 63 [(0, .ref (G.2.2.1 0)), (4, .int x4), (5, .int x5)] [] := by
  rw [c_X8_noteRun_63] at h
  refine v_aload_n hC dX8_noteRun_63 0 rfl ?_
  refine v_get (C := RX8) (T := TX8) (N := 20) (ci := 7) (k := 17) (v := .ref (G.2.2.1 16)) hC hO0 hi_X8_noteRun_X8 rfl (by decide) (by decide) rfl rfl fl81_X8_noteRun dX8_noteRun_64 rfl ?_
  refine v_iconst (v := 0) hC dX8_noteRun_67 (by decide) ?_
  refine v_iload hC dX8_noteRun_68 1 rfl ?_
  obtain ⟨g_9, h⟩ := gd h
  refine v_iast hC (obX_7_17 hG hO0).1 (obX_7_17 hG hO0).2 (t0 := 0) rfl g_9 dX8_noteRun_70 ?_
  obtain ⟨s10, e11, h⟩ := ld h
  refine V.eq e11 ?_
  refine v_aload_n hC dX8_noteRun_71 0 rfl ?_
  refine v_get (C := RX8) (T := TX8) (N := 20) (ci := 7) (k := 17) (v := .ref (G.2.2.1 16)) hC hO0 hi_X8_noteRun_X8 rfl (by decide) (by decide) rfl rfl fl81_X8_noteRun dX8_noteRun_72 rfl ?_
  refine v_iconst (v := 2) hC dX8_noteRun_75 (by decide) ?_
  refine v_iload hC dX8_noteRun_76 2 rfl ?_
  obtain ⟨g_12, h⟩ := gd h
  refine v_iast hC (obX_7_17 hG hO0).1 (obX_7_17 hG hO0).2 (t0 := 0) rfl g_12 dX8_noteRun_78 ?_
  obtain ⟨s13, e14, h⟩ := ld h
  refine V.eq e14 ?_
  exact v_vret hC rfl dX8_noteRun_79 h
def c_X8_noteRun_14 : Nat → Nat → Nat → Int32 → Int32 → Int32 → Int32 → HS → Option HS
  | 0, _, _, _, _, _, _, _ => none
  | n + 1, i1, i2, x3, x4, x5, x6, σ => (if (gI σ i2 1) ≤ x6 then (c_X8_noteRun_63 x4 x5 σ) else (bi2 (c_X1_lookThatFinds i1 i2 x6 x3 σ) (fun r7 s6 => (if r7 ≤ 0 then (c_X8_noteRun_57 (fun z0 z1 z2 z3 z4 => c_X8_noteRun_14 n i1 i2 z0 z1 z2 z3 z4) i1 i2 x3 x4 (x5 + x3) x6 s6) else (c_X8_noteRun_57 (fun z0 z1 z2 z3 z4 => c_X8_noteRun_14 n i1 i2 z0 z1 z2 z3 z4) i1 i2 x3 (x4 + 1) (x5 + r7) x6 s6)))))
set_option maxHeartbeats 4000000 in
set_option maxRecDepth 100000 in
theorem w_X8_noteRun_14 {adK adV : Nat → Nat} {tb : Nat} {p : Program} {l : Launch} {e : Env} {s : State} {m : MethodId} {args : Array Value} {below : List Frame} {meth : Method} {c : Code} {A : Nat → Prop} {G : WD}  {τ : HS} {i1 : Nat} {i2 : Nat}  (hG : GX G xY) (hO0 : Ob G xY 0 7) (hO1 : Ob G xY i1 1) (hO2 : Ob G xY i2 0) (hC : Cx (xE adK adV tb) G.1 G.2.1 xY cX8_noteRun 8 none RX8 wsX8_noteRun p s m args meth c A)  : ∀ (n : Nat) (x3 : Int32) (x4 : Int32) (x5 : Int32) (x6 : Int32) (σ : HS), c_X8_noteRun_14 n i1 i2 x3 x4 x5 x6 σ = some τ → V p l e rmX8_noteRun s m args below meth c 8 A G xY 0 0 (MQ below (QV G xY A τ) args s 0 0 A) σ 14 [(0, .ref (G.2.2.1 0)), (1, .ref (G.2.2.1 i1)), (2, .ref (G.2.2.1 i2)), (3, .int x3), (4, .int x4), (5, .int x5), (6, .int x6)] [] := by
  intro n
  induction n with
  | zero => intro x3 x4 x5 x6 σ h; exact nof h
  | succ n ih =>
    intro x3 x4 x5 x6 σ h
    rw [c_X8_noteRun_14] at h
    refine v_iload hC dX8_noteRun_14 6 rfl ?_
    refine v_aload_n hC dX8_noteRun_16 2 rfl ?_
    refine v_getN (C := RX0) (T := TX0) (N := 5) (ci := 0) (k := 1) (v := .int (gI σ i2 1)) hC hO2 hi_X8_noteRun_X0 rfl (by decide) (by decide) rfl rfl (xE_nf_X8_124 hC.2.2.2.2.2) dX8_noteRun_17 rfl ?_
    refine v_icmp_ge (tgt := 63) hC dX8_noteRun_20 (by decide) (fun c_4 => ?_) (fun c_4 => ?_)
    · replace h := ift c_4 h
      refine V.sub (L' := [(0, .ref (G.2.2.1 0)), (4, .int x4), (5, .int x5)]) [0, 4, 5] rfl ?_
      exact w_X8_noteRun_63 hG (hO0) hC h
    · replace h := ifn c_4 h
      refine v_aload_n hC dX8_noteRun_23 1 rfl ?_
      refine v_aload_n hC dX8_noteRun_24 2 rfl ?_
      refine v_iload hC dX8_noteRun_25 6 rfl ?_
      refine v_iload_n hC dX8_noteRun_27 3 rfl ?_
      obtain ⟨r7, s6, hc_5, h⟩ := bd2 h
      refine v_callVI hC xE_ok (n := 3) (As := [.ref (G.2.2.1 i2), .int x6, .int x3]) (k_X1_lookThatFinds l hG (hO1) (hO2) hc_5) (cwV 3 hC.1.2.2.2.2 gX8_noteRun_X1_lookThatFinds rfl rfl rfl (by decide +kernel) ⟨(Nat.le_of_ble_eq_true rfl), (Nat.le_of_ble_eq_true rfl)⟩) hO1 (by decide) rfl rfl rfl (Nat.le_of_ble_eq_true rfl) ⟨Nat.zero_le _, Nat.zero_le _⟩ dX8_noteRun_28 rfl ?_
      refine v_istore (L' := [(0, .ref (G.2.2.1 0)), (1, .ref (G.2.2.1 i1)), (2, .ref (G.2.2.1 i2)), (3, .int x3), (4, .int x4), (5, .int x5), (6, .int x6), (7, .int r7)]) hC dX8_noteRun_31 (by decide) [1, 2, 3, 4, 5, 6, 7, 0] rfl ?_
      refine v_iload hC dX8_noteRun_33 7 rfl ?_
      refine v_if_le (tgt := 51) hC dX8_noteRun_35 (by decide) (fun c_8 => ?_) (fun c_8 => ?_)
      · replace h := ift c_8 h
        refine v_iload hC dX8_noteRun_51 5 rfl ?_
        refine v_iload_n hC dX8_noteRun_53 3 rfl ?_
        refine v_iadd hC dX8_noteRun_54 ?_
        refine v_istore (L' := [(0, .ref (G.2.2.1 0)), (1, .ref (G.2.2.1 i1)), (2, .ref (G.2.2.1 i2)), (3, .int x3), (4, .int x4), (5, .int (x5 + x3)), (6, .int x6)]) hC dX8_noteRun_55 (by decide) [1, 2, 3, 4, 5, 0, 6] rfl ?_
        exact w_X8_noteRun_57 hG (hO0) (hO1) (hO2) hC (fun _ _ _ _ _ h => ih _ _ _ _ _ h) h
      · replace h := ifn c_8 h
        refine v_iinc (v := (x4 + 1)) (L' := [(0, .ref (G.2.2.1 0)), (1, .ref (G.2.2.1 i1)), (2, .ref (G.2.2.1 i2)), (3, .int x3), (4, .int (x4 + 1)), (5, .int x5), (6, .int x6), (7, .int r7)]) hC dX8_noteRun_38 4 rfl rfl (by decide) [1, 2, 3, 4, 0, 5, 6, 7] rfl ?_
        refine v_iload hC dX8_noteRun_41 5 rfl ?_
        refine v_iload hC dX8_noteRun_43 7 rfl ?_
        refine v_iadd hC dX8_noteRun_45 ?_
        refine v_istore (L' := [(0, .ref (G.2.2.1 0)), (1, .ref (G.2.2.1 i1)), (2, .ref (G.2.2.1 i2)), (3, .int x3), (4, .int (x4 + 1)), (5, .int (x5 + r7)), (6, .int x6)]) hC dX8_noteRun_46 (by decide) [1, 2, 3, 4, 5, 0, 6] rfl ?_
        refine v_goto (tgt := 57) hC dX8_noteRun_48 (by decide) ?_
        exact w_X8_noteRun_57 hG (hO0) (hO1) (hO2) hC (fun _ _ _ _ _ h => ih _ _ _ _ _ h) h
def c_X8_noteRun (i1 : Nat) (i2 : Nat) (σ : HS) : Option HS := (bi2 (c_X8_looksOfEach σ) (fun r3 s2 => (c_X8_noteRun_14 FU i1 i2 r3 0 0 0 s2)))
set_option maxHeartbeats 4000000 in
set_option maxRecDepth 100000 in
theorem w_X8_noteRun {adK adV : Nat → Nat} {tb : Nat} {p : Program} {l : Launch} {e : Env} {s : State} {m : MethodId} {args : Array Value} {below : List Frame} {meth : Method} {c : Code} {A : Nat → Prop} {G : WD}  {τ : HS} {i1 : Nat} {i2 : Nat} {σ : HS}  (hG : GX G xY) (hO0 : Ob G xY 0 7) (hO1 : Ob G xY i1 1) (hO2 : Ob G xY i2 0) (hC : Cx (xE adK adV tb) G.1 G.2.1 xY cX8_noteRun 8 none RX8 wsX8_noteRun p s m args meth c A) (h : c_X8_noteRun i1 i2 σ = some τ) : V p l e rmX8_noteRun s m args below meth c 8 A G xY 0 0 (MQ below (QV G xY A τ) args s 0 0 A) σ 0 [(0, .ref (G.2.2.1 0)), (1, .ref (G.2.2.1 i1)), (2, .ref (G.2.2.1 i2))] [] := by
  rw [c_X8_noteRun] at h
  refine v_aload_n hC dX8_noteRun_0 0 rfl ?_
  obtain ⟨r3, s2, hc_1, h⟩ := bd2 h
  refine v_callVI hC xE_ok (n := 0) (As := []) (k_X8_looksOfEach l hG (hO0) hc_1) (cwV 0 hC.1.2.2.2.2 gX8_noteRun_X8_looksOfEach rfl rfl rfl (by decide +kernel) ⟨(Nat.le_of_ble_eq_true rfl), (Nat.le_of_ble_eq_true rfl)⟩) hO0 (by decide) rfl rfl rfl (Nat.le_of_ble_eq_true rfl) ⟨Nat.zero_le _, Nat.zero_le _⟩ dX8_noteRun_1 rfl ?_
  refine v_istore_n (L' := [(0, .ref (G.2.2.1 0)), (1, .ref (G.2.2.1 i1)), (2, .ref (G.2.2.1 i2)), (3, .int r3)]) hC dX8_noteRun_4 (by decide) [1, 2, 3, 0] rfl ?_
  refine v_iconst (v := 0) hC dX8_noteRun_5 (by decide) ?_
  refine v_istore (L' := [(0, .ref (G.2.2.1 0)), (1, .ref (G.2.2.1 i1)), (2, .ref (G.2.2.1 i2)), (3, .int r3), (4, .int 0)]) hC dX8_noteRun_6 (by decide) [1, 2, 3, 4, 0] rfl ?_
  refine v_iconst (v := 0) hC dX8_noteRun_8 (by decide) ?_
  refine v_istore (L' := [(0, .ref (G.2.2.1 0)), (1, .ref (G.2.2.1 i1)), (2, .ref (G.2.2.1 i2)), (3, .int r3), (4, .int 0), (5, .int 0)]) hC dX8_noteRun_9 (by decide) [1, 2, 3, 4, 5, 0] rfl ?_
  refine v_iconst (v := 0) hC dX8_noteRun_11 (by decide) ?_
  refine v_istore (L' := [(0, .ref (G.2.2.1 0)), (1, .ref (G.2.2.1 i1)), (2, .ref (G.2.2.1 i2)), (3, .int r3), (4, .int 0), (5, .int 0), (6, .int 0)]) hC dX8_noteRun_12 (by decide) [1, 2, 3, 4, 5, 6, 0] rfl ?_
  exact w_X8_noteRun_14 hG (hO0) (hO1) (hO2) hC FU _ _ _ _ _ h
theorem k_X8_noteRun {adK adV : Nat → Nat} {tb : Nat} (l : Launch) {G : WD}  {τ : HS} {i1 : Nat} {i2 : Nat} {σ : HS}  (hG : GX G xY) (hO0 : Ob G xY 0 7) (hO1 : Ob G xY i1 1) (hO2 : Ob G xY i2 0) (h : c_X8_noteRun i1 i2 σ = some τ) : MV (xE adK adV tb) l yX8_noteRun wsX8_noteRun rmX8_noteRun G xY [.ref (G.2.2.1 0), .ref (G.2.2.1 i1), .ref (G.2.2.1 i2)] σ τ :=
  MV.of RX8 (by decide) rfl rfl (Nat.le_of_ble_eq_true rfl) rfl rfl (fun p e s m below meth c hC => w_X8_noteRun  hG hO0 hO1 hO2 hC h)
abbrev rmX8_goHome : Room := { frames := 4, cells := 0, slots := 0, locals := 90 }
def c_X8_goHome (i1 : Nat) (i2 : Nat) (σ : HS) : Option (Int32 × HS) := (bi1 (c_X8_noteRun i1 i2 σ) (fun s2 => (bi2 (c_X8_worth 0 s2) (fun r5 s4 => (if r5 = 0 then (bi2 (c_X8_worth 1 s4) (fun r9 s8 => (some ((jxmax 0 (jxmin (gI s4 i2 1) r9)), s8)))) else (some ((gI s4 i2 1), s4)))))))
set_option maxHeartbeats 4000000 in
set_option maxRecDepth 100000 in
theorem w_X8_goHome {adK adV : Nat → Nat} {tb : Nat} {p : Program} {l : Launch} {e : Env} {s : State} {m : MethodId} {args : Array Value} {below : List Frame} {meth : Method} {c : Code} {A : Nat → Prop} {G : WD}  {r0 : Int32} {τ : HS} {i1 : Nat} {i2 : Nat} {σ : HS}  (hG : GX G xY) (hO0 : Ob G xY 0 7) (hO1 : Ob G xY i1 1) (hO2 : Ob G xY i2 0) (hC : Cx (xE adK adV tb) G.1 G.2.1 xY cX8_goHome 3 (some .int) RX8 wsX8_goHome p s m args meth c A) (h : c_X8_goHome i1 i2 σ = some (r0, τ)) : V p l e rmX8_goHome s m args below meth c 3 A G xY 0 0 (MQ below (QI G xY A r0 τ) args s 0 0 A) σ 0 [(0, .ref (G.2.2.1 0)), (1, .ref (G.2.2.1 i1)), (2, .ref (G.2.2.1 i2))] [] := by
  rw [c_X8_goHome] at h
  refine v_aload_n hC dX8_goHome_0 0 rfl ?_
  refine v_aload_n hC dX8_goHome_1 1 rfl ?_
  refine v_aload_n hC dX8_goHome_2 2 rfl ?_
  obtain ⟨s2, hc_1, h⟩ := bd1 h
  refine v_callVV hC xE_ok (n := 2) (As := [.ref (G.2.2.1 i1), .ref (G.2.2.1 i2)]) (k_X8_noteRun l hG (hO0) (hO1) (hO2) hc_1) (cwV 2 hC.1.2.2.2.2 gX8_goHome_X8_noteRun rfl rfl rfl (by decide +kernel) ⟨(Nat.le_of_ble_eq_true rfl), (Nat.le_of_ble_eq_true rfl)⟩) hO0 (by decide) rfl rfl rfl (Nat.le_of_ble_eq_true rfl) ⟨Nat.zero_le _, Nat.zero_le _⟩ dX8_goHome_3 rfl ?_
  refine v_aload_n hC dX8_goHome_6 0 rfl ?_
  refine v_iconst (v := 0) hC dX8_goHome_7 (by decide) ?_
  obtain ⟨r5, s4, hc_3, h⟩ := bd2 h
  refine v_callVI hC xE_ok (n := 1) (As := [.int 0]) (k_X8_worth l hG (hO0) hc_3) (cwV 1 hC.1.2.2.2.2 gX8_goHome_X8_worth rfl rfl rfl (by decide +kernel) ⟨(Nat.le_of_ble_eq_true rfl), (Nat.le_of_ble_eq_true rfl)⟩) hO0 (by decide) rfl rfl rfl (Nat.le_of_ble_eq_true rfl) ⟨Nat.zero_le _, Nat.zero_le _⟩ dX8_goHome_8 rfl ?_
  refine v_if_eq (tgt := 19) hC dX8_goHome_11 (by decide) (fun c_6 => ?_) (fun c_6 => ?_)
  · replace h := ift c_6 h
    refine v_iconst (v := 0) hC dX8_goHome_19 (by decide) ?_
    refine v_aload_n hC dX8_goHome_20 2 rfl ?_
    refine v_getN (C := RX0) (T := TX0) (N := 5) (ci := 0) (k := 1) (v := .int (gI s4 i2 1)) hC hO2 hi_X8_goHome_X0 rfl (by decide) (by decide) rfl rfl (xE_nf_X8_124 hC.2.2.2.2.2) dX8_goHome_21 rfl ?_
    refine v_aload_n hC dX8_goHome_24 0 rfl ?_
    refine v_iconst (v := 1) hC dX8_goHome_25 (by decide) ?_
    obtain ⟨r9, s8, hc_7, h⟩ := bd2 h
    refine v_callVI hC xE_ok (n := 1) (As := [.int 1]) (k_X8_worth l hG (hO0) hc_7) (cwV 1 hC.1.2.2.2.2 gX8_goHome_X8_worth rfl rfl rfl (by decide +kernel) ⟨(Nat.le_of_ble_eq_true rfl), (Nat.le_of_ble_eq_true rfl)⟩) hO0 (by decide) rfl rfl rfl (Nat.le_of_ble_eq_true rfl) ⟨Nat.zero_le _, Nat.zero_le _⟩ dX8_goHome_26 rfl ?_
    refine v_min hC mx204_X8_goHome.1 mx204_X8_goHome.2.1 mx204_X8_goHome.2.2.1 mx204_X8_goHome.2.2.2 (Nat.le_of_ble_eq_true rfl) (Nat.le_of_ble_eq_true rfl) ⟨Nat.zero_le _, Nat.zero_le _⟩ dX8_goHome_29 ?_
    refine v_max hC mx213_X8_goHome.1 mx213_X8_goHome.2.1 mx213_X8_goHome.2.2.1 mx213_X8_goHome.2.2.2 (Nat.le_of_ble_eq_true rfl) (Nat.le_of_ble_eq_true rfl) ⟨Nat.zero_le _, Nat.zero_le _⟩ dX8_goHome_32 ?_
    exact v_iret hC rfl dX8_goHome_35 h
  · replace h := ifn c_6 h
    refine v_aload_n hC dX8_goHome_14 2 rfl ?_
    refine v_getN (C := RX0) (T := TX0) (N := 5) (ci := 0) (k := 1) (v := .int (gI s4 i2 1)) hC hO2 hi_X8_goHome_X0 rfl (by decide) (by decide) rfl rfl (xE_nf_X8_124 hC.2.2.2.2.2) dX8_goHome_15 rfl ?_
    exact v_iret hC rfl dX8_goHome_18 h
theorem k_X8_goHome {adK adV : Nat → Nat} {tb : Nat} (l : Launch) {G : WD}  {r0 : Int32} {τ : HS} {i1 : Nat} {i2 : Nat} {σ : HS}  (hG : GX G xY) (hO0 : Ob G xY 0 7) (hO1 : Ob G xY i1 1) (hO2 : Ob G xY i2 0) (h : c_X8_goHome i1 i2 σ = some (r0, τ)) : MI (xE adK adV tb) l yX8_goHome wsX8_goHome rmX8_goHome G xY [.ref (G.2.2.1 0), .ref (G.2.2.1 i1), .ref (G.2.2.1 i2)] σ r0 τ :=
  MI.of RX8 (by decide) rfl rfl (Nat.le_of_ble_eq_true rfl) rfl rfl (fun p e s m below meth c hC => w_X8_goHome  hG hO0 hO1 hO2 hC h)
abbrev rmX8_run : Room := { frames := 5, cells := 0, slots := 0, locals := 112 }
def c_X8_run (p1 : Int32) (p2 : Int32) (σ : HS) : Option (Int32 × HS) := (bi2 (c_X8_planAt p1 σ) (fun r3 s2 => (mo r3 (some ((-2), s2)) (fun j5 => (if p2 < 0 then (some ((-2), s2)) else (if p2 ≤ 2 then (bi1 (c_X8_noteLaying 1 s2) (fun s9 => (bi2 (c_X8_goHome j5 1 s9) (fun r12 s11 => (if p2 = 2 then (some (r12, s11)) else (if p2 = 0 then (if inb 0 6 = true then (some ((gI s11 16 (ix 0)), s11)) else none) else (if inb 2 6 = true then (some ((gI s11 16 (ix 2)), s11)) else none))))))) else (some ((-2), s2))))))))
set_option maxHeartbeats 4000000 in
set_option maxRecDepth 100000 in
theorem w_X8_run {adK adV : Nat → Nat} {tb : Nat} {p : Program} {l : Launch} {e : Env} {s : State} {m : MethodId} {args : Array Value} {below : List Frame} {meth : Method} {c : Code} {A : Nat → Prop} {G : WD}  {r0 : Int32} {τ : HS} {p1 : Int32} {p2 : Int32} {σ : HS}  (hG : GX G xY) (hO0 : Ob G xY 0 7) (hC : Cx (xE adK adV tb) G.1 G.2.1 xY cX8_run 5 (some .int) RX8 wsX8_run p s m args meth c A) (h : c_X8_run p1 p2 σ = some (r0, τ)) : V p l e rmX8_run s m args below meth c 5 A G xY 0 0 (MQ below (QI G xY A r0 τ) args s 0 0 A) σ 0 [(0, .ref (G.2.2.1 0)), (1, .int p1), (2, .int p2)] [] := by
  rw [c_X8_run] at h
  refine v_aload_n hC dX8_run_0 0 rfl ?_
  refine v_iload_n hC dX8_run_1 1 rfl ?_
  obtain ⟨r3, s2, hc_1, h⟩ := bd2 h
  refine v_callVR hC xE_ok (n := 1) (As := [.int p1]) (k_X8_planAt l hG (hO0) hc_1) (cwV 1 hC.1.2.2.2.2 gX8_run_X8_planAt rfl rfl rfl (by decide +kernel) ⟨(Nat.le_of_ble_eq_true rfl), (Nat.le_of_ble_eq_true rfl)⟩) hO0 (by decide) rfl rfl rfl (Nat.le_of_ble_eq_true rfl) ⟨Nat.zero_le _, Nat.zero_le _⟩ dX8_run_2 rfl ?_
  refine v_wt (fun hv_4 => ?_)
  refine v_astore_nR (L' := [(0, .ref (G.2.2.1 0)), (2, .int p2), (3, rv G.2.2.1 r3)]) hC dX8_run_5 (by decide) [1, 3, 0] rfl ?_
  refine v_aload_nR hC dX8_run_6 2 rfl ?_
  cases r3 with
  | none =>
    replace h := mo_n h
    refine v_ifnull_t (tgt := 19) hC dX8_run_7 (by decide) ?_
    refine v_bipush (v := (-2)) hC dX8_run_19 (by decide) ?_
    exact v_iret hC rfl dX8_run_21 h
  | some j5 =>
    replace h := mo_s h
    refine v_ifnull_f hC dX8_run_7 ?_
    refine V.sub (L' := [(0, .ref (G.2.2.1 0)), (2, .int p2), (3, .ref (G.2.2.1 j5))]) [0, 1, 2] rfl ?_
    refine v_iload_n hC dX8_run_10 1 rfl ?_
    refine v_if_lt (tgt := 19) hC dX8_run_11 (by decide) (fun c_6 => ?_) (fun c_6 => ?_)
    · replace h := ift c_6 h
      refine v_bipush (v := (-2)) hC dX8_run_19 (by decide) ?_
      exact v_iret hC rfl dX8_run_21 h
    · replace h := ifn c_6 h
      refine v_iload_n hC dX8_run_14 1 rfl ?_
      refine v_iconst (v := 2) hC dX8_run_15 (by decide) ?_
      refine v_icmp_le (tgt := 22) hC dX8_run_16 (by decide) (fun c_7 => ?_) (fun c_7 => ?_)
      · replace h := ift c_7 h
        refine v_aload_n hC dX8_run_22 0 rfl ?_
        refine v_aload_n hC dX8_run_23 0 rfl ?_
        refine v_get (C := RX8) (T := TX8) (N := 20) (ci := 7) (k := 0) (v := .ref (G.2.2.1 1)) hC hO0 hi_X8_run_X8 rfl (by decide) (by decide) rfl rfl fl10_X8_run dX8_run_24 rfl ?_
        obtain ⟨s9, hc_8, h⟩ := bd1 h
        refine v_callVV hC xE_ok (n := 1) (As := [.ref (G.2.2.1 1)]) (k_X8_noteLaying l hG (hO0) ((obX_7_0 hG hO0)) hc_8) (cwV 1 hC.1.2.2.2.2 gX8_run_X8_noteLaying rfl rfl rfl (by decide +kernel) ⟨(Nat.le_of_ble_eq_true rfl), (Nat.le_of_ble_eq_true rfl)⟩) hO0 (by decide) rfl rfl rfl (Nat.le_of_ble_eq_true rfl) ⟨Nat.zero_le _, Nat.zero_le _⟩ dX8_run_27 rfl ?_
        refine v_aload_n hC dX8_run_30 0 rfl ?_
        refine v_aload_n hC dX8_run_31 2 rfl ?_
        refine v_aload_n hC dX8_run_32 0 rfl ?_
        refine v_get (C := RX8) (T := TX8) (N := 20) (ci := 7) (k := 0) (v := .ref (G.2.2.1 1)) hC hO0 hi_X8_run_X8 rfl (by decide) (by decide) rfl rfl fl10_X8_run dX8_run_33 rfl ?_
        obtain ⟨r12, s11, hc_10, h⟩ := bd2 h
        refine v_callVI hC xE_ok (n := 2) (As := [.ref (G.2.2.1 j5), .ref (G.2.2.1 1)]) (k_X8_goHome l hG (hO0) ((show Ob G xY j5 1 from (rok_planAt hG (hO0) hv_4 hc_1) j5 rfl)) ((obX_7_0 hG hO0)) hc_10) (cwV 2 hC.1.2.2.2.2 gX8_run_X8_goHome rfl rfl rfl (by decide +kernel) ⟨(Nat.le_of_ble_eq_true rfl), (Nat.le_of_ble_eq_true rfl)⟩) hO0 (by decide) rfl rfl rfl (Nat.le_of_ble_eq_true rfl) ⟨Nat.zero_le _, Nat.zero_le _⟩ dX8_run_36 rfl ?_
        refine v_istore (L' := [(0, .ref (G.2.2.1 0)), (2, .int p2), (4, .int r12)]) hC dX8_run_39 (by decide) [1, 2, 0] rfl ?_
        refine v_iload_n hC dX8_run_41 1 rfl ?_
        refine v_iconst (v := 2) hC dX8_run_42 (by decide) ?_
        refine v_icmp_ne (tgt := 49) hC dX8_run_43 (by decide) (fun c_13 => ?_) (fun c_13 => ?_)
        · replace h := ifn c_13 h
          refine v_iload_n hC dX8_run_49 1 rfl ?_
          refine v_if_ne (tgt := 62) hC dX8_run_50 (by decide) (fun c_14 => ?_) (fun c_14 => ?_)
          · replace h := ifn c_14 h
            refine v_aload_n hC dX8_run_62 0 rfl ?_
            refine v_get (C := RX8) (T := TX8) (N := 20) (ci := 7) (k := 17) (v := .ref (G.2.2.1 16)) hC hO0 hi_X8_run_X8 rfl (by decide) (by decide) rfl rfl fl81_X8_run dX8_run_63 rfl ?_
            refine v_iconst (v := 2) hC dX8_run_66 (by decide) ?_
            obtain ⟨g_15, h⟩ := gd h
            refine v_iald hC (obX_7_17 hG hO0).1 (obX_7_17 hG hO0).2 (t0 := 0) rfl g_15 dX8_run_67 ?_
            exact v_iret hC rfl dX8_run_68 h
          · replace h := ift c_14 h
            refine v_aload_n hC dX8_run_53 0 rfl ?_
            refine v_get (C := RX8) (T := TX8) (N := 20) (ci := 7) (k := 17) (v := .ref (G.2.2.1 16)) hC hO0 hi_X8_run_X8 rfl (by decide) (by decide) rfl rfl fl81_X8_run dX8_run_54 rfl ?_
            refine v_iconst (v := 0) hC dX8_run_57 (by decide) ?_
            obtain ⟨g_16, h⟩ := gd h
            refine v_iald hC (obX_7_17 hG hO0).1 (obX_7_17 hG hO0).2 (t0 := 0) rfl g_16 dX8_run_58 ?_
            refine v_goto (tgt := 68) hC dX8_run_59 (by decide) ?_
            exact v_iret hC rfl dX8_run_68 h
        · replace h := ift c_13 h
          refine v_iload hC dX8_run_46 2 rfl ?_
          exact v_iret hC rfl dX8_run_48 h
      · replace h := ifn c_7 h
        refine v_bipush (v := (-2)) hC dX8_run_19 (by decide) ?_
        exact v_iret hC rfl dX8_run_21 h
theorem k_X8_run {adK adV : Nat → Nat} {tb : Nat} (l : Launch) {G : WD}  {r0 : Int32} {τ : HS} {p1 : Int32} {p2 : Int32} {σ : HS}  (hG : GX G xY) (hO0 : Ob G xY 0 7) (h : c_X8_run p1 p2 σ = some (r0, τ)) : MI (xE adK adV tb) l yX8_run wsX8_run rmX8_run G xY [.ref (G.2.2.1 0), .int p1, .int p2] σ r0 τ :=
  MI.of RX8 (by decide) rfl rfl (Nat.le_of_ble_eq_true rfl) rfl rfl (fun p e s m below meth c hC => w_X8_run  hG hO0 hC h)
abbrev rmX8_waysClosed : Room := { frames := 0, cells := 0, slots := 0, locals := 0 }
def c_X8_waysClosed_74 (k9 : Int32 → Int32 → Int32 → HS → Option (Int64 × HS)) (x1 : Int32) (x2 : Int32) (x3 : Int32) (x4 : Int64) (σ : HS) : Option (Int64 × HS) := (if inb x3 13 = true then (lt (sJ σ 17 (ix x3) x4) (fun s13 => (k9 x1 x2 (x3 + 1) s13))) else none)
set_option maxHeartbeats 4000000 in
set_option maxRecDepth 100000 in
theorem w_X8_waysClosed_74 {adK adV : Nat → Nat} {tb : Nat} {p : Program} {l : Launch} {e : Env} {s : State} {m : MethodId} {args : Array Value} {below : List Frame} {meth : Method} {c : Code} {A : Nat → Prop} {G : WD}  {r0 : Int64} {τ : HS}  {k9 : Int32 → Int32 → Int32 → HS → Option (Int64 × HS)} {x1 : Int32} {x2 : Int32} {x3 : Int32} {x4 : Int64} {σ : HS}  (hG : GX G xY) (hO0 : Ob G xY 0 7) (hC : Cx (xE adK adV tb) G.1 G.2.1 xY cX8_waysClosed 9 (some .long) RX8 wsX8_waysClosed p s m args meth c A) (hk9 : ∀ (x1 : Int32) (x2 : Int32) (x3 : Int32) (σ : HS), k9 x1 x2 x3 σ = some (r0, τ) → V p l e rmX8_waysClosed s m args below meth c 9 A G xY 0 0 (MQ below (QJ G xY A r0 τ) args s 0 0 A) σ 9 [(0, .ref (G.2.2.1 0)), (1, .int x1), (2, .int x2), (3, .int x3)] []) (h : c_X8_waysClosed_74 k9 x1 x2 x3 x4 σ = some (r0, τ)) : V p l e rmX8_waysClosed s m args below meth c 9 A G xY 0 0 (MQ below (QJ G xY A r0 τ) args s 0 0 A) σ 74 [(0, .ref (G.2.2.1 0)), (1, .int x1), (2, .int x2), (3, .int x3), (4, .long x4)] [] := by
  rw [c_X8_waysClosed_74] at h
  refine v_aload_n hC dX8_waysClosed_74 0 rfl ?_
  refine v_get (C := RX8) (T := TX8) (N := 20) (ci := 7) (k := 18) (v := .ref (G.2.2.1 17)) hC hO0 hi_X8_waysClosed_X8 rfl (by decide) (by decide) rfl rfl fl85_X8_waysClosed dX8_waysClosed_75 rfl ?_
  refine v_iload_n hC dX8_waysClosed_78 3 rfl ?_
  refine v_lload hC dX8_waysClosed_79 4 rfl ?_
  obtain ⟨g_12, h⟩ := gd h
  refine v_last hC (obX_7_18 hG hO0).1 (obX_7_18 hG hO0).2 (t0 := 1) rfl g_12 dX8_waysClosed_81 ?_
  obtain ⟨s13, e14, h⟩ := ld h
  refine V.eq e14 ?_
  refine v_iinc (v := (x3 + 1)) (L' := [(0, .ref (G.2.2.1 0)), (1, .int x1), (2, .int x2), (3, .int (x3 + 1)), (4, .long x4)]) hC dX8_waysClosed_82 3 rfl rfl (by decide) [1, 2, 3, 0, 4] rfl ?_
  refine v_goto (tgt := 9) hC dX8_waysClosed_85 (by decide) ?_
  refine V.sub (L' := [(0, .ref (G.2.2.1 0)), (1, .int x1), (2, .int x2), (3, .int (x3 + 1))]) [0, 1, 2, 3] rfl ?_
  exact hk9 _ _ _ _ h
def c_X8_waysClosed_29 (k9 : Int32 → Int32 → Int32 → HS → Option (Int64 × HS)) : Nat → Int32 → Int32 → Int32 → Int64 → Int64 → Int32 → HS → Option (Int64 × HS)
  | 0, _, _, _, _, _, _, _ => none
  | n + 1, x1, x2, x3, x4, x6, x8, σ => (if x3 < x8 then (c_X8_waysClosed_74 k9 x1 x2 x3 x4 σ) else (if x2 < x8 then (c_X8_waysClosed_74 k9 x1 x2 x3 x4 σ) else (if inb (x3 - x8) 13 = true then (c_X8_waysClosed_29 k9 n x1 x2 x3 (x4 + (x6 * (gJ σ 17 (ix (x3 - x8))))) (x6 * (Int32.toInt64 (x3 - x8))) (x8 + 1) σ) else none)))
set_option maxHeartbeats 4000000 in
set_option maxRecDepth 100000 in
theorem w_X8_waysClosed_29 {adK adV : Nat → Nat} {tb : Nat} {p : Program} {l : Launch} {e : Env} {s : State} {m : MethodId} {args : Array Value} {below : List Frame} {meth : Method} {c : Code} {A : Nat → Prop} {G : WD}  {r0 : Int64} {τ : HS}  {k9 : Int32 → Int32 → Int32 → HS → Option (Int64 × HS)}  (hG : GX G xY) (hO0 : Ob G xY 0 7) (hC : Cx (xE adK adV tb) G.1 G.2.1 xY cX8_waysClosed 9 (some .long) RX8 wsX8_waysClosed p s m args meth c A) (hk9 : ∀ (x1 : Int32) (x2 : Int32) (x3 : Int32) (σ : HS), k9 x1 x2 x3 σ = some (r0, τ) → V p l e rmX8_waysClosed s m args below meth c 9 A G xY 0 0 (MQ below (QJ G xY A r0 τ) args s 0 0 A) σ 9 [(0, .ref (G.2.2.1 0)), (1, .int x1), (2, .int x2), (3, .int x3)] []) : ∀ (n : Nat) (x1 : Int32) (x2 : Int32) (x3 : Int32) (x4 : Int64) (x6 : Int64) (x8 : Int32) (σ : HS), c_X8_waysClosed_29 k9 n x1 x2 x3 x4 x6 x8 σ = some (r0, τ) → V p l e rmX8_waysClosed s m args below meth c 9 A G xY 0 0 (MQ below (QJ G xY A r0 τ) args s 0 0 A) σ 29 [(0, .ref (G.2.2.1 0)), (1, .int x1), (2, .int x2), (3, .int x3), (4, .long x4), (6, .long x6), (8, .int x8)] [] := by
  intro n
  induction n with
  | zero => intro x1 x2 x3 x4 x6 x8 σ h; exact nof h
  | succ n ih =>
    intro x1 x2 x3 x4 x6 x8 σ h
    rw [c_X8_waysClosed_29] at h
    refine v_iload hC dX8_waysClosed_29 6 rfl ?_
    refine v_iload_n hC dX8_waysClosed_31 3 rfl ?_
    refine v_icmp_gt (tgt := 74) hC dX8_waysClosed_32 (by decide) (fun c_9 => ?_) (fun c_9 => ?_)
    · replace h := ift c_9 h
      refine V.sub (L' := [(0, .ref (G.2.2.1 0)), (1, .int x1), (2, .int x2), (3, .int x3), (4, .long x4)]) [0, 1, 2, 3, 4] rfl ?_
      exact w_X8_waysClosed_74 hG (hO0) hC hk9 h
    · replace h := ifn c_9 h
      refine v_iload hC dX8_waysClosed_35 6 rfl ?_
      refine v_iload_n hC dX8_waysClosed_37 2 rfl ?_
      refine v_icmp_gt (tgt := 74) hC dX8_waysClosed_38 (by decide) (fun c_10 => ?_) (fun c_10 => ?_)
      · replace h := ift c_10 h
        refine V.sub (L' := [(0, .ref (G.2.2.1 0)), (1, .int x1), (2, .int x2), (3, .int x3), (4, .long x4)]) [0, 1, 2, 3, 4] rfl ?_
        exact w_X8_waysClosed_74 hG (hO0) hC hk9 h
      · replace h := ifn c_10 h
        refine v_lload hC dX8_waysClosed_41 4 rfl ?_
        refine v_lload hC dX8_waysClosed_43 5 rfl ?_
        refine v_aload_n hC dX8_waysClosed_45 0 rfl ?_
        refine v_get (C := RX8) (T := TX8) (N := 20) (ci := 7) (k := 18) (v := .ref (G.2.2.1 17)) hC hO0 hi_X8_waysClosed_X8 rfl (by decide) (by decide) rfl rfl fl85_X8_waysClosed dX8_waysClosed_46 rfl ?_
        refine v_iload_n hC dX8_waysClosed_49 3 rfl ?_
        refine v_iload hC dX8_waysClosed_50 6 rfl ?_
        refine v_isub hC dX8_waysClosed_52 ?_
        obtain ⟨g_11, h⟩ := gd h
        refine v_lald hC (obX_7_18 hG hO0).1 (obX_7_18 hG hO0).2 (t0 := 1) rfl g_11 dX8_waysClosed_53 ?_
        refine v_lmul hC dX8_waysClosed_54 ?_
        refine v_ladd hC dX8_waysClosed_55 ?_
        refine v_lstore (L' := [(0, .ref (G.2.2.1 0)), (1, .int x1), (2, .int x2), (3, .int x3), (4, .long (x4 + (x6 * (gJ σ 17 (ix (x3 - x8)))))), (6, .long x6), (8, .int x8)]) hC dX8_waysClosed_56 (by decide) [1, 2, 3, 4, 0, 5, 6] rfl ?_
        refine v_lload hC dX8_waysClosed_58 5 rfl ?_
        refine v_iload_n hC dX8_waysClosed_60 3 rfl ?_
        refine v_iload hC dX8_waysClosed_61 6 rfl ?_
        refine v_isub hC dX8_waysClosed_63 ?_
        refine v_i2l hC dX8_waysClosed_64 ?_
        refine v_lmul hC dX8_waysClosed_65 ?_
        refine v_lstore (L' := [(0, .ref (G.2.2.1 0)), (1, .int x1), (2, .int x2), (3, .int x3), (4, .long (x4 + (x6 * (gJ σ 17 (ix (x3 - x8)))))), (6, .long (x6 * (Int32.toInt64 (x3 - x8)))), (8, .int x8)]) hC dX8_waysClosed_66 (by decide) [1, 2, 3, 4, 5, 0, 6] rfl ?_
        refine v_iinc (v := (x8 + 1)) (L' := [(0, .ref (G.2.2.1 0)), (1, .int x1), (2, .int x2), (3, .int x3), (4, .long (x4 + (x6 * (gJ σ 17 (ix (x3 - x8)))))), (6, .long (x6 * (Int32.toInt64 (x3 - x8)))), (8, .int (x8 + 1))]) hC dX8_waysClosed_68 6 rfl rfl (by decide) [1, 2, 3, 4, 5, 6, 0] rfl ?_
        refine v_goto (tgt := 29) hC dX8_waysClosed_71 (by decide) ?_
        exact ih _ _ _ _ _ _ _ h
def c_X8_waysClosed_88 (x1 : Int32) (σ : HS) : Option (Int64 × HS) := (if x1 < 0 then (some (0, σ)) else (if 12 < x1 then (some (0, σ)) else (if inb x1 13 = true then (some ((gJ σ 17 (ix x1)), σ)) else none)))
set_option maxHeartbeats 4000000 in
set_option maxRecDepth 100000 in
theorem w_X8_waysClosed_88 {adK adV : Nat → Nat} {tb : Nat} {p : Program} {l : Launch} {e : Env} {s : State} {m : MethodId} {args : Array Value} {below : List Frame} {meth : Method} {c : Code} {A : Nat → Prop} {G : WD}  {r0 : Int64} {τ : HS}  {x1 : Int32} {σ : HS}  (hG : GX G xY) (hO0 : Ob G xY 0 7) (hC : Cx (xE adK adV tb) G.1 G.2.1 xY cX8_waysClosed 9 (some .long) RX8 wsX8_waysClosed p s m args meth c A)  (h : c_X8_waysClosed_88 x1 σ = some (r0, τ)) : V p l e rmX8_waysClosed s m args below meth c 9 A G xY 0 0 (MQ below (QJ G xY A r0 τ) args s 0 0 A) σ 88 [(0, .ref (G.2.2.1 0)), (1, .int x1)] [] := by
  rw [c_X8_waysClosed_88] at h
  refine v_iload_n hC dX8_waysClosed_88 1 rfl ?_
  refine v_if_lt (tgt := 107) hC dX8_waysClosed_89 (by decide) (fun c_6 => ?_) (fun c_6 => ?_)
  · replace h := ift c_6 h
    refine v_lconst (v := 0) hC dX8_waysClosed_107 (by decide) ?_
    exact v_lret hC rfl dX8_waysClosed_108 h
  · replace h := ifn c_6 h
    refine v_iload_n hC dX8_waysClosed_92 1 rfl ?_
    refine v_bipush (v := 12) hC dX8_waysClosed_93 (by decide) ?_
    refine v_icmp_gt (tgt := 107) hC dX8_waysClosed_95 (by decide) (fun c_7 => ?_) (fun c_7 => ?_)
    · replace h := ift c_7 h
      refine v_lconst (v := 0) hC dX8_waysClosed_107 (by decide) ?_
      exact v_lret hC rfl dX8_waysClosed_108 h
    · replace h := ifn c_7 h
      refine v_aload_n hC dX8_waysClosed_98 0 rfl ?_
      refine v_get (C := RX8) (T := TX8) (N := 20) (ci := 7) (k := 18) (v := .ref (G.2.2.1 17)) hC hO0 hi_X8_waysClosed_X8 rfl (by decide) (by decide) rfl rfl fl85_X8_waysClosed dX8_waysClosed_99 rfl ?_
      refine v_iload_n hC dX8_waysClosed_102 1 rfl ?_
      obtain ⟨g_8, h⟩ := gd h
      refine v_lald hC (obX_7_18 hG hO0).1 (obX_7_18 hG hO0).2 (t0 := 1) rfl g_8 dX8_waysClosed_103 ?_
      refine v_goto (tgt := 108) hC dX8_waysClosed_104 (by decide) ?_
      exact v_lret hC rfl dX8_waysClosed_108 h
def c_X8_waysClosed_9 : Nat → Int32 → Int32 → Int32 → HS → Option (Int64 × HS)
  | 0, _, _, _, _ => none
  | n + 1, x1, x2, x3, σ => (if x1 < x3 then (c_X8_waysClosed_88 x1 σ) else (if 12 < x3 then (c_X8_waysClosed_88 x1 σ) else (c_X8_waysClosed_29 (fun z0 z1 z2 z3 => c_X8_waysClosed_9 n z0 z1 z2 z3) FU x1 x2 x3 0 1 1 σ)))
set_option maxHeartbeats 4000000 in
set_option maxRecDepth 100000 in
theorem w_X8_waysClosed_9 {adK adV : Nat → Nat} {tb : Nat} {p : Program} {l : Launch} {e : Env} {s : State} {m : MethodId} {args : Array Value} {below : List Frame} {meth : Method} {c : Code} {A : Nat → Prop} {G : WD}  {r0 : Int64} {τ : HS}   (hG : GX G xY) (hO0 : Ob G xY 0 7) (hC : Cx (xE adK adV tb) G.1 G.2.1 xY cX8_waysClosed 9 (some .long) RX8 wsX8_waysClosed p s m args meth c A)  : ∀ (n : Nat) (x1 : Int32) (x2 : Int32) (x3 : Int32) (σ : HS), c_X8_waysClosed_9 n x1 x2 x3 σ = some (r0, τ) → V p l e rmX8_waysClosed s m args below meth c 9 A G xY 0 0 (MQ below (QJ G xY A r0 τ) args s 0 0 A) σ 9 [(0, .ref (G.2.2.1 0)), (1, .int x1), (2, .int x2), (3, .int x3)] [] := by
  intro n
  induction n with
  | zero => intro x1 x2 x3 σ h; exact nof h
  | succ n ih =>
    intro x1 x2 x3 σ h
    rw [c_X8_waysClosed_9] at h
    refine v_iload_n hC dX8_waysClosed_9 3 rfl ?_
    refine v_iload_n hC dX8_waysClosed_10 1 rfl ?_
    refine v_icmp_gt (tgt := 88) hC dX8_waysClosed_11 (by decide) (fun c_4 => ?_) (fun c_4 => ?_)
    · replace h := ift c_4 h
      refine V.sub (L' := [(0, .ref (G.2.2.1 0)), (1, .int x1)]) [0, 1] rfl ?_
      exact w_X8_waysClosed_88 hG (hO0) hC h
    · replace h := ifn c_4 h
      refine v_iload_n hC dX8_waysClosed_14 3 rfl ?_
      refine v_bipush (v := 12) hC dX8_waysClosed_15 (by decide) ?_
      refine v_icmp_gt (tgt := 88) hC dX8_waysClosed_17 (by decide) (fun c_5 => ?_) (fun c_5 => ?_)
      · replace h := ift c_5 h
        refine V.sub (L' := [(0, .ref (G.2.2.1 0)), (1, .int x1)]) [0, 1] rfl ?_
        exact w_X8_waysClosed_88 hG (hO0) hC h
      · replace h := ifn c_5 h
        refine v_lconst (v := 0) hC dX8_waysClosed_20 (by decide) ?_
        refine v_lstore (L' := [(0, .ref (G.2.2.1 0)), (1, .int x1), (2, .int x2), (3, .int x3), (4, .long 0)]) hC dX8_waysClosed_21 (by decide) [1, 2, 3, 4, 0] rfl ?_
        refine v_lconst (v := 1) hC dX8_waysClosed_23 (by decide) ?_
        refine v_lstore (L' := [(0, .ref (G.2.2.1 0)), (1, .int x1), (2, .int x2), (3, .int x3), (4, .long 0), (6, .long 1)]) hC dX8_waysClosed_24 (by decide) [1, 2, 3, 4, 5, 0] rfl ?_
        refine v_iconst (v := 1) hC dX8_waysClosed_26 (by decide) ?_
        refine v_istore (L' := [(0, .ref (G.2.2.1 0)), (1, .int x1), (2, .int x2), (3, .int x3), (4, .long 0), (6, .long 1), (8, .int 1)]) hC dX8_waysClosed_27 (by decide) [1, 2, 3, 4, 5, 6, 0] rfl ?_
        exact w_X8_waysClosed_29 hG (hO0) hC (fun _ _ _ _ h => ih _ _ _ _ h) FU _ _ _ _ _ _ _ h
def c_X8_waysClosed (p1 : Int32) (p2 : Int32) (σ : HS) : Option (Int64 × HS) := (if inb 0 13 = true then (lt (sJ σ 17 (ix 0) 1) (fun s2 => (c_X8_waysClosed_9 FU p1 p2 1 s2))) else none)
set_option maxHeartbeats 4000000 in
set_option maxRecDepth 100000 in
theorem w_X8_waysClosed {adK adV : Nat → Nat} {tb : Nat} {p : Program} {l : Launch} {e : Env} {s : State} {m : MethodId} {args : Array Value} {below : List Frame} {meth : Method} {c : Code} {A : Nat → Prop} {G : WD}  {r0 : Int64} {τ : HS} {p1 : Int32} {p2 : Int32} {σ : HS}  (hG : GX G xY) (hO0 : Ob G xY 0 7) (hC : Cx (xE adK adV tb) G.1 G.2.1 xY cX8_waysClosed 9 (some .long) RX8 wsX8_waysClosed p s m args meth c A) (h : c_X8_waysClosed p1 p2 σ = some (r0, τ)) : V p l e rmX8_waysClosed s m args below meth c 9 A G xY 0 0 (MQ below (QJ G xY A r0 τ) args s 0 0 A) σ 0 [(0, .ref (G.2.2.1 0)), (1, .int p1), (2, .int p2)] [] := by
  rw [c_X8_waysClosed] at h
  refine v_aload_n hC dX8_waysClosed_0 0 rfl ?_
  refine v_get (C := RX8) (T := TX8) (N := 20) (ci := 7) (k := 18) (v := .ref (G.2.2.1 17)) hC hO0 hi_X8_waysClosed_X8 rfl (by decide) (by decide) rfl rfl fl85_X8_waysClosed dX8_waysClosed_1 rfl ?_
  refine v_iconst (v := 0) hC dX8_waysClosed_4 (by decide) ?_
  refine v_lconst (v := 1) hC dX8_waysClosed_5 (by decide) ?_
  obtain ⟨g_1, h⟩ := gd h
  refine v_last hC (obX_7_18 hG hO0).1 (obX_7_18 hG hO0).2 (t0 := 1) rfl g_1 dX8_waysClosed_6 ?_
  obtain ⟨s2, e3, h⟩ := ld h
  refine V.eq e3 ?_
  refine v_iconst (v := 1) hC dX8_waysClosed_7 (by decide) ?_
  refine v_istore_n (L' := [(0, .ref (G.2.2.1 0)), (1, .int p1), (2, .int p2), (3, .int 1)]) hC dX8_waysClosed_8 (by decide) [1, 2, 3, 0] rfl ?_
  exact w_X8_waysClosed_9 hG (hO0) hC FU _ _ _ _ h
theorem k_X8_waysClosed {adK adV : Nat → Nat} {tb : Nat} (l : Launch) {G : WD}  {r0 : Int64} {τ : HS} {p1 : Int32} {p2 : Int32} {σ : HS}  (hG : GX G xY) (hO0 : Ob G xY 0 7) (h : c_X8_waysClosed p1 p2 σ = some (r0, τ)) : MJ (xE adK adV tb) l yX8_waysClosed wsX8_waysClosed rmX8_waysClosed G xY [.ref (G.2.2.1 0), .int p1, .int p2] σ r0 τ :=
  MJ.of RX8 (by decide) rfl rfl (Nat.le_of_ble_eq_true rfl) rfl rfl (fun p e s m below meth c hC => w_X8_waysClosed  hG hO0 hC h)
abbrev rmX8_closed : Room := { frames := 1, cells := 0, slots := 0, locals := 28 }
def c_X8_closed (p1 : Int32) (p2 : Int32) (σ : HS) : Option (Int64 × HS) := (if p1 < 1 then (some ((-4611686018427387904), σ)) else (if 12 < p1 then (some ((-4611686018427387904), σ)) else (if p2 < 0 then (some ((-4611686018427387904), σ)) else (if p2 ≤ 12 then (bi2 (c_X8_waysClosed p1 p2 σ) (fun r7 s6 => (some (r7, s6)))) else (some ((-4611686018427387904), σ))))))
set_option maxHeartbeats 4000000 in
set_option maxRecDepth 100000 in
theorem w_X8_closed {adK adV : Nat → Nat} {tb : Nat} {p : Program} {l : Launch} {e : Env} {s : State} {m : MethodId} {args : Array Value} {below : List Frame} {meth : Method} {c : Code} {A : Nat → Prop} {G : WD}  {r0 : Int64} {τ : HS} {p1 : Int32} {p2 : Int32} {σ : HS}  (hG : GX G xY) (hO0 : Ob G xY 0 7) (hC : Cx (xE adK adV tb) G.1 G.2.1 xY cX8_closed 3 (some .long) RX8 wsX8_closed p s m args meth c A) (h : c_X8_closed p1 p2 σ = some (r0, τ)) : V p l e rmX8_closed s m args below meth c 3 A G xY 0 0 (MQ below (QJ G xY A r0 τ) args s 0 0 A) σ 0 [(0, .ref (G.2.2.1 0)), (1, .int p1), (2, .int p2)] [] := by
  rw [c_X8_closed] at h
  refine v_iload_n hC dX8_closed_0 1 rfl ?_
  refine v_iconst (v := 1) hC dX8_closed_1 (by decide) ?_
  refine v_icmp_lt (tgt := 21) hC dX8_closed_2 (by decide) (fun c_1 => ?_) (fun c_1 => ?_)
  · replace h := ift c_1 h
    refine v_ldc2 (v := (-4611686018427387904)) hC lc219_X8_closed dX8_closed_21 ?_
    exact v_lret hC rfl dX8_closed_24 h
  · replace h := ifn c_1 h
    refine v_iload_n hC dX8_closed_5 1 rfl ?_
    refine v_bipush (v := 12) hC dX8_closed_6 (by decide) ?_
    refine v_icmp_gt (tgt := 21) hC dX8_closed_8 (by decide) (fun c_2 => ?_) (fun c_2 => ?_)
    · replace h := ift c_2 h
      refine v_ldc2 (v := (-4611686018427387904)) hC lc219_X8_closed dX8_closed_21 ?_
      exact v_lret hC rfl dX8_closed_24 h
    · replace h := ifn c_2 h
      refine v_iload_n hC dX8_closed_11 2 rfl ?_
      refine v_if_lt (tgt := 21) hC dX8_closed_12 (by decide) (fun c_3 => ?_) (fun c_3 => ?_)
      · replace h := ift c_3 h
        refine v_ldc2 (v := (-4611686018427387904)) hC lc219_X8_closed dX8_closed_21 ?_
        exact v_lret hC rfl dX8_closed_24 h
      · replace h := ifn c_3 h
        refine v_iload_n hC dX8_closed_15 2 rfl ?_
        refine v_bipush (v := 12) hC dX8_closed_16 (by decide) ?_
        refine v_icmp_le (tgt := 25) hC dX8_closed_18 (by decide) (fun c_4 => ?_) (fun c_4 => ?_)
        · replace h := ift c_4 h
          refine v_aload_n hC dX8_closed_25 0 rfl ?_
          refine v_iload_n hC dX8_closed_26 1 rfl ?_
          refine v_iload_n hC dX8_closed_27 2 rfl ?_
          obtain ⟨r7, s6, hc_5, h⟩ := bd2 h
          refine v_callVJ hC xE_ok (n := 2) (As := [.int p1, .int p2]) (k_X8_waysClosed l hG (hO0) hc_5) (cwV 2 hC.1.2.2.2.2 gX8_closed_X8_waysClosed rfl rfl rfl (by decide +kernel) ⟨(Nat.le_of_ble_eq_true rfl), (Nat.le_of_ble_eq_true rfl)⟩) hO0 (by decide) rfl rfl rfl (Nat.le_of_ble_eq_true rfl) ⟨Nat.zero_le _, Nat.zero_le _⟩ dX8_closed_28 rfl ?_
          exact v_lret hC rfl dX8_closed_31 h
        · replace h := ifn c_4 h
          refine v_ldc2 (v := (-4611686018427387904)) hC lc219_X8_closed dX8_closed_21 ?_
          exact v_lret hC rfl dX8_closed_24 h
theorem k_X8_closed {adK adV : Nat → Nat} {tb : Nat} (l : Launch) {G : WD}  {r0 : Int64} {τ : HS} {p1 : Int32} {p2 : Int32} {σ : HS}  (hG : GX G xY) (hO0 : Ob G xY 0 7) (h : c_X8_closed p1 p2 σ = some (r0, τ)) : MJ (xE adK adV tb) l yX8_closed wsX8_closed rmX8_closed G xY [.ref (G.2.2.1 0), .int p1, .int p2] σ r0 τ :=
  MJ.of RX8 (by decide) rfl rfl (Nat.le_of_ble_eq_true rfl) rfl rfl (fun p e s m below meth c hC => w_X8_closed  hG hO0 hC h)
abbrev rmX8_factorial : Room := { frames := 0, cells := 0, slots := 0, locals := 0 }
def c_X8_factorial_4 : Nat → Int32 → Int64 → Int32 → HS → Option (Int64 × HS)
  | 0, _, _, _, _ => none
  | n + 1, x0, x1, x3, σ => (if x0 < x3 then (some (x1, σ)) else (c_X8_factorial_4 n x0 (x1 * (Int32.toInt64 x3)) (x3 + 1) σ))
set_option maxHeartbeats 4000000 in
set_option maxRecDepth 100000 in
theorem w_X8_factorial_4 {adK adV : Nat → Nat} {tb : Nat} {p : Program} {l : Launch} {e : Env} {s : State} {m : MethodId} {args : Array Value} {below : List Frame} {meth : Method} {c : Code} {A : Nat → Prop} {G : WD}  {r0 : Int64} {τ : HS}   (hG : GX G xY)  (hC : Cx (xE adK adV tb) G.1 G.2.1 xY cX8_factorial 4 (some .long) RX8 wsX8_factorial p s m args meth c A)  : ∀ (n : Nat) (x0 : Int32) (x1 : Int64) (x3 : Int32) (σ : HS), c_X8_factorial_4 n x0 x1 x3 σ = some (r0, τ) → V p l e rmX8_factorial s m args below meth c 4 A G xY 0 0 (MQ below (QJ G xY A r0 τ) args s 0 0 A) σ 4 [(0, .int x0), (1, .long x1), (3, .int x3)] [] := by
  intro n
  induction n with
  | zero => intro x0 x1 x3 σ h; exact nof h
  | succ n ih =>
    intro x0 x1 x3 σ h
    rw [c_X8_factorial_4] at h
    refine v_iload_n hC dX8_factorial_4 2 rfl ?_
    refine v_iload_n hC dX8_factorial_5 0 rfl ?_
    refine v_icmp_gt (tgt := 20) hC dX8_factorial_6 (by decide) (fun c_1 => ?_) (fun c_1 => ?_)
    · replace h := ift c_1 h
      refine v_lload_n hC dX8_factorial_20 1 rfl ?_
      exact v_lret hC rfl dX8_factorial_21 h
    · replace h := ifn c_1 h
      refine v_lload_n hC dX8_factorial_9 1 rfl ?_
      refine v_iload_n hC dX8_factorial_10 2 rfl ?_
      refine v_i2l hC dX8_factorial_11 ?_
      refine v_lmul hC dX8_factorial_12 ?_
      refine v_lstore_n (L' := [(0, .int x0), (1, .long (x1 * (Int32.toInt64 x3))), (3, .int x3)]) hC dX8_factorial_13 (by decide) [1, 0, 2] rfl ?_
      refine v_iinc (v := (x3 + 1)) (L' := [(0, .int x0), (1, .long (x1 * (Int32.toInt64 x3))), (3, .int (x3 + 1))]) hC dX8_factorial_14 2 rfl rfl (by decide) [1, 2, 0] rfl ?_
      refine v_goto (tgt := 4) hC dX8_factorial_17 (by decide) ?_
      exact ih _ _ _ _ h
def c_X8_factorial (p0 : Int32) (σ : HS) : Option (Int64 × HS) := (c_X8_factorial_4 FU p0 1 2 σ)
set_option maxHeartbeats 4000000 in
set_option maxRecDepth 100000 in
theorem w_X8_factorial {adK adV : Nat → Nat} {tb : Nat} {p : Program} {l : Launch} {e : Env} {s : State} {m : MethodId} {args : Array Value} {below : List Frame} {meth : Method} {c : Code} {A : Nat → Prop} {G : WD}  {r0 : Int64} {τ : HS} {p0 : Int32} {σ : HS}  (hG : GX G xY)  (hC : Cx (xE adK adV tb) G.1 G.2.1 xY cX8_factorial 4 (some .long) RX8 wsX8_factorial p s m args meth c A) (h : c_X8_factorial p0 σ = some (r0, τ)) : V p l e rmX8_factorial s m args below meth c 4 A G xY 0 0 (MQ below (QJ G xY A r0 τ) args s 0 0 A) σ 0 [(0, .int p0)] [] := by
  rw [c_X8_factorial] at h
  refine v_lconst (v := 1) hC dX8_factorial_0 (by decide) ?_
  refine v_lstore_n (L' := [(0, .int p0), (1, .long 1)]) hC dX8_factorial_1 (by decide) [1, 0] rfl ?_
  refine v_iconst (v := 2) hC dX8_factorial_2 (by decide) ?_
  refine v_istore_n (L' := [(0, .int p0), (1, .long 1), (3, .int 2)]) hC dX8_factorial_3 (by decide) [1, 2, 0] rfl ?_
  exact w_X8_factorial_4 hG hC FU _ _ _ _ h
theorem k_X8_factorial {adK adV : Nat → Nat} {tb : Nat} (l : Launch) {G : WD}  {r0 : Int64} {τ : HS} {p0 : Int32} {σ : HS}  (hG : GX G xY)  (h : c_X8_factorial p0 σ = some (r0, τ)) : MJ (xE adK adV tb) l yX8_factorial wsX8_factorial rmX8_factorial G xY [.int p0] σ r0 τ :=
  MJ.of RX8 (by decide) rfl rfl (Nat.le_of_ble_eq_true rfl) rfl rfl (fun p e s m below meth c hC => w_X8_factorial  hG  hC h)
abbrev rmX8_hasTooManyLayings : Room := { frames := 0, cells := 0, slots := 0, locals := 0 }
def c_X8_hasTooManyLayings (σ : HS) : Option (Int32 × HS) := (if (gI σ 1 1) ≤ 7 then (some (0, σ)) else (some (1, σ)))
set_option maxHeartbeats 4000000 in
set_option maxRecDepth 100000 in
theorem w_X8_hasTooManyLayings {adK adV : Nat → Nat} {tb : Nat} {p : Program} {l : Launch} {e : Env} {s : State} {m : MethodId} {args : Array Value} {below : List Frame} {meth : Method} {c : Code} {A : Nat → Prop} {G : WD}  {r0 : Int32} {τ : HS}  {σ : HS}  (hG : GX G xY) (hO0 : Ob G xY 0 7) (hC : Cx (xE adK adV tb) G.1 G.2.1 xY cX8_hasTooManyLayings 1 (some .boolean) RX8 wsX8_hasTooManyLayings p s m args meth c A) (h : c_X8_hasTooManyLayings  σ = some (r0, τ)) : V p l e rmX8_hasTooManyLayings s m args below meth c 1 A G xY 0 0 (MQ below (QI G xY A r0 τ) args s 0 0 A) σ 0 [(0, .ref (G.2.2.1 0))] [] := by
  rw [c_X8_hasTooManyLayings] at h
  refine v_aload_n hC dX8_hasTooManyLayings_0 0 rfl ?_
  refine v_get (C := RX8) (T := TX8) (N := 20) (ci := 7) (k := 0) (v := .ref (G.2.2.1 1)) hC hO0 hi_X8_hasTooManyLayings_X8 rfl (by decide) (by decide) rfl rfl fl10_X8_hasTooManyLayings dX8_hasTooManyLayings_1 rfl ?_
  refine v_getN (C := RX0) (T := TX0) (N := 5) (ci := 0) (k := 1) (v := .int (gI σ 1 1)) hC (obX_7_0 hG hO0) hi_X8_hasTooManyLayings_X0 rfl (by decide) (by decide) rfl rfl (xE_nf_X8_124 hC.2.2.2.2.2) dX8_hasTooManyLayings_4 rfl ?_
  refine v_bipush (v := 7) hC dX8_hasTooManyLayings_7 (by decide) ?_
  refine v_icmp_le (tgt := 16) hC dX8_hasTooManyLayings_9 (by decide) (fun c_1 => ?_) (fun c_1 => ?_)
  · replace h := ift c_1 h
    refine v_iconst (v := 0) hC dX8_hasTooManyLayings_16 (by decide) ?_
    exact v_zret hC rfl rfl dX8_hasTooManyLayings_17 h
  · replace h := ifn c_1 h
    refine v_iconst (v := 1) hC dX8_hasTooManyLayings_12 (by decide) ?_
    refine v_goto (tgt := 17) hC dX8_hasTooManyLayings_13 (by decide) ?_
    exact v_zret hC rfl rfl dX8_hasTooManyLayings_17 h
theorem k_X8_hasTooManyLayings {adK adV : Nat → Nat} {tb : Nat} (l : Launch) {G : WD}  {r0 : Int32} {τ : HS}  {σ : HS}  (hG : GX G xY) (hO0 : Ob G xY 0 7) (h : c_X8_hasTooManyLayings  σ = some (r0, τ)) : MI (xE adK adV tb) l yX8_hasTooManyLayings wsX8_hasTooManyLayings rmX8_hasTooManyLayings G xY [.ref (G.2.2.1 0)] σ r0 τ :=
  MI.of RX8 (by decide) rfl rfl (Nat.le_of_ble_eq_true rfl) rfl rfl (fun p e s m below meth c hC => w_X8_hasTooManyLayings  hG hO0 hC h)
abbrev rmX8_tallyOf : Room := { frames := 5, cells := 0, slots := 0, locals := 112 }
def c_X8_tallyOf_74 : Nat → Nat → Nat → Int64 → Int64 → HS → Option (Option Nat × HS)
  | 0, _, _, _, _, _ => none
  | n + 1, i1, i2, x3, x5, σ => (if 0 ≤ (lg_cmp x5 x3) then (some ((some i2), σ)) else (bi1 (c_X8_noteLaying 5 σ) (fun s14 => (bi2 (c_X8_goHome i1 5 s14) (fun r17 s16 => (bi1 (c_X4_add i2 5 r17 s16) (fun s19 => (bi1 (c_X0_advance 5 s19) (fun s21 => (c_X8_tallyOf_74 n i1 i2 x3 (x5 + 1) s21))))))))))
set_option maxHeartbeats 4000000 in
set_option maxRecDepth 100000 in
theorem w_X8_tallyOf_74 {adK adV : Nat → Nat} {tb : Nat} {p : Program} {l : Launch} {e : Env} {s : State} {m : MethodId} {args : Array Value} {below : List Frame} {meth : Method} {c : Code} {A : Nat → Prop} {G : WD}  {r0 : Option Nat} {τ : HS} {i1 : Nat} {i2 : Nat}  (hG : GX G xY) (hO0 : Ob G xY 0 7) (hO1 : Ob G xY i1 1) (hO2 : Ob G xY i2 4) (hC : Cx (xE adK adV tb) G.1 G.2.1 xY cX8_tallyOf 7 (some (.object "HundredBoxes$Tally")) RX8 wsX8_tallyOf p s m args meth c A)  : ∀ (n : Nat) (x3 : Int64) (x5 : Int64) (σ : HS), c_X8_tallyOf_74 n i1 i2 x3 x5 σ = some (r0, τ) → V p l e rmX8_tallyOf s m args below meth c 7 A G xY 0 0 (MQ below (QR G xY A r0 τ) args s 0 0 A) σ 74 [(0, .ref (G.2.2.1 0)), (1, .ref (G.2.2.1 i1)), (2, .ref (G.2.2.1 i2)), (3, .long x3), (5, .long x5)] [] := by
  intro n
  induction n with
  | zero => intro x3 x5 σ h; exact nof h
  | succ n ih =>
    intro x3 x5 σ h
    rw [c_X8_tallyOf_74] at h
    refine v_lload hC dX8_tallyOf_74 4 rfl ?_
    refine v_lload_n hC dX8_tallyOf_76 3 rfl ?_
    refine v_lcmp hC dX8_tallyOf_77 ?_
    refine v_if_ge (tgt := 122) hC dX8_tallyOf_78 (by decide) (fun c_12 => ?_) (fun c_12 => ?_)
    · replace h := ift c_12 h
      refine v_aload_n hC dX8_tallyOf_122 2 rfl ?_
      exact v_aret (o := (some i2)) hC rfl (Or.inl ⟨_, rfl⟩) dX8_tallyOf_123 h
    · replace h := ifn c_12 h
      refine v_aload_n hC dX8_tallyOf_81 0 rfl ?_
      refine v_aload_n hC dX8_tallyOf_82 0 rfl ?_
      refine v_get (C := RX8) (T := TX8) (N := 20) (ci := 7) (k := 16) (v := .ref (G.2.2.1 5)) hC hO0 hi_X8_tallyOf_X8 rfl (by decide) (by decide) rfl rfl fl78_X8_tallyOf dX8_tallyOf_83 rfl ?_
      obtain ⟨s14, hc_13, h⟩ := bd1 h
      refine v_callVV hC xE_ok (n := 1) (As := [.ref (G.2.2.1 5)]) (k_X8_noteLaying l hG (hO0) ((obX_7_16 hG hO0)) hc_13) (cwV 1 hC.1.2.2.2.2 gX8_tallyOf_X8_noteLaying rfl rfl rfl (by decide +kernel) ⟨(Nat.le_of_ble_eq_true rfl), (Nat.le_of_ble_eq_true rfl)⟩) hO0 (by decide) rfl rfl rfl (Nat.le_of_ble_eq_true rfl) ⟨Nat.zero_le _, Nat.zero_le _⟩ dX8_tallyOf_86 rfl ?_
      refine v_aload_n hC dX8_tallyOf_89 2 rfl ?_
      refine v_aload_n hC dX8_tallyOf_90 0 rfl ?_
      refine v_aload_n hC dX8_tallyOf_91 1 rfl ?_
      refine v_aload_n hC dX8_tallyOf_92 0 rfl ?_
      refine v_get (C := RX8) (T := TX8) (N := 20) (ci := 7) (k := 16) (v := .ref (G.2.2.1 5)) hC hO0 hi_X8_tallyOf_X8 rfl (by decide) (by decide) rfl rfl fl78_X8_tallyOf dX8_tallyOf_93 rfl ?_
      obtain ⟨r17, s16, hc_15, h⟩ := bd2 h
      refine v_callVI hC xE_ok (n := 2) (As := [.ref (G.2.2.1 i1), .ref (G.2.2.1 5)]) (k_X8_goHome l hG (hO0) (hO1) ((obX_7_16 hG hO0)) hc_15) (cwV 2 hC.1.2.2.2.2 gX8_tallyOf_X8_goHome rfl rfl rfl (by decide +kernel) ⟨(Nat.le_of_ble_eq_true rfl), (Nat.le_of_ble_eq_true rfl)⟩) hO0 (by decide) rfl rfl rfl (Nat.le_of_ble_eq_true rfl) ⟨Nat.zero_le _, Nat.zero_le _⟩ dX8_tallyOf_96 rfl ?_
      refine v_aload_n hC dX8_tallyOf_99 0 rfl ?_
      refine v_get (C := RX8) (T := TX8) (N := 20) (ci := 7) (k := 16) (v := .ref (G.2.2.1 5)) hC hO0 hi_X8_tallyOf_X8 rfl (by decide) (by decide) rfl rfl fl78_X8_tallyOf dX8_tallyOf_100 rfl ?_
      obtain ⟨s19, hc_18, h⟩ := bd1 h
      refine v_callVV hC xE_ok (n := 2) (As := [.int r17, .ref (G.2.2.1 5)]) (k_X4_add l hG (hO2) ((obX_7_16 hG hO0)) hc_18) (cwV 2 hC.1.2.2.2.2 gX8_tallyOf_X4_add rfl rfl rfl (by decide +kernel) ⟨(Nat.le_of_ble_eq_true rfl), (Nat.le_of_ble_eq_true rfl)⟩) hO2 (by decide) rfl rfl rfl (Nat.le_of_ble_eq_true rfl) ⟨Nat.zero_le _, Nat.zero_le _⟩ dX8_tallyOf_103 rfl ?_
      refine v_aload_n hC dX8_tallyOf_106 0 rfl ?_
      refine v_get (C := RX8) (T := TX8) (N := 20) (ci := 7) (k := 16) (v := .ref (G.2.2.1 5)) hC hO0 hi_X8_tallyOf_X8 rfl (by decide) (by decide) rfl rfl fl78_X8_tallyOf dX8_tallyOf_107 rfl ?_
      obtain ⟨s21, hc_20, h⟩ := bd1 h
      refine v_callVV hC xE_ok (n := 0) (As := []) (k_X0_advance l hG ((obX_7_16 hG hO0)) hc_20) (cwV 0 hC.1.2.2.2.2 gX8_tallyOf_X0_advance rfl rfl rfl (by decide +kernel) ⟨(Nat.le_of_ble_eq_true rfl), (Nat.le_of_ble_eq_true rfl)⟩) (obX_7_16 hG hO0) (by decide) rfl rfl rfl (Nat.le_of_ble_eq_true rfl) ⟨Nat.zero_le _, Nat.zero_le _⟩ dX8_tallyOf_110 rfl ?_
      refine v_lload hC dX8_tallyOf_113 4 rfl ?_
      refine v_lconst (v := 1) hC dX8_tallyOf_115 (by decide) ?_
      refine v_ladd hC dX8_tallyOf_116 ?_
      refine v_lstore (L' := [(0, .ref (G.2.2.1 0)), (1, .ref (G.2.2.1 i1)), (2, .ref (G.2.2.1 i2)), (3, .long x3), (5, .long (x5 + 1))]) hC dX8_tallyOf_117 (by decide) [1, 2, 3, 4, 0] rfl ?_
      refine v_goto (tgt := 74) hC dX8_tallyOf_119 (by decide) ?_
      exact ih _ _ _ h
def c_X8_tallyOf (i1 : Nat) (σ : HS) : Option (Option Nat × HS) := (bi2 (c_X4_isOf (i1 + 1) (gI σ 1 1) (gI σ 0 1) (gI σ 0 2) σ) (fun r3 s2 => (if r3 = 0 then (bi1 (c_X4_begin (i1 + 1) (gI s2 1 1) (gI s2 0 1) (gI s2 0 2) s2) (fun s6 => (bi1 (c_X0_layOwn 5 (gI s6 1 1) s6) (fun s8 => (bi2 (c_X8_factorial (gI s8 1 1) s8) (fun r11 s10 => (c_X8_tallyOf_74 FU i1 (i1 + 1) r11 0 s10))))))) else (some ((some (i1 + 1)), s2)))))
set_option maxHeartbeats 4000000 in
set_option maxRecDepth 100000 in
theorem w_X8_tallyOf {adK adV : Nat → Nat} {tb : Nat} {p : Program} {l : Launch} {e : Env} {s : State} {m : MethodId} {args : Array Value} {below : List Frame} {meth : Method} {c : Code} {A : Nat → Prop} {G : WD}  {r0 : Option Nat} {τ : HS} {i1 : Nat} {σ : HS}  (hG : GX G xY) (hO0 : Ob G xY 0 7) (hO1 : Ob G xY i1 1) (hC : Cx (xE adK adV tb) G.1 G.2.1 xY cX8_tallyOf 7 (some (.object "HundredBoxes$Tally")) RX8 wsX8_tallyOf p s m args meth c A) (h : c_X8_tallyOf i1 σ = some (r0, τ)) : V p l e rmX8_tallyOf s m args below meth c 7 A G xY 0 0 (MQ below (QR G xY A r0 τ) args s 0 0 A) σ 0 [(0, .ref (G.2.2.1 0)), (1, .ref (G.2.2.1 i1))] [] := by
  rw [c_X8_tallyOf] at h
  refine v_aload_n hC dX8_tallyOf_0 1 rfl ?_
  refine v_getN (C := RX1) (T := TX1) (N := 3) (ci := 1) (k := 2) (v := .ref (G.2.2.1 (i1 + 1))) hC hO1 hi_X8_tallyOf_X1 rfl (by decide) (by decide) rfl rfl (xE_nf_X8_274 hC.2.2.2.2.2) dX8_tallyOf_1 rfl ?_
  refine v_astore_n (L' := [(0, .ref (G.2.2.1 0)), (1, .ref (G.2.2.1 i1)), (2, .ref (G.2.2.1 (i1 + 1)))]) hC dX8_tallyOf_4 (by decide) [1, 2, 0] rfl ?_
  refine v_aload_n hC dX8_tallyOf_5 2 rfl ?_
  refine v_aload_n hC dX8_tallyOf_6 0 rfl ?_
  refine v_get (C := RX8) (T := TX8) (N := 20) (ci := 7) (k := 0) (v := .ref (G.2.2.1 1)) hC hO0 hi_X8_tallyOf_X8 rfl (by decide) (by decide) rfl rfl fl10_X8_tallyOf dX8_tallyOf_7 rfl ?_
  refine v_getN (C := RX0) (T := TX0) (N := 5) (ci := 0) (k := 1) (v := .int (gI σ 1 1)) hC (obX_7_0 hG hO0) hi_X8_tallyOf_X0 rfl (by decide) (by decide) rfl rfl (xE_nf_X8_124 hC.2.2.2.2.2) dX8_tallyOf_10 rfl ?_
  refine v_aload_n hC dX8_tallyOf_13 0 rfl ?_
  refine v_get (C := RX8) (T := TX8) (N := 20) (ci := 7) (k := 1) (v := .int (gI σ 0 1)) hC hO0 hi_X8_tallyOf_X8 rfl (by decide) (by decide) rfl rfl fl16_X8_tallyOf dX8_tallyOf_14 rfl ?_
  refine v_aload_n hC dX8_tallyOf_17 0 rfl ?_
  refine v_get (C := RX8) (T := TX8) (N := 20) (ci := 7) (k := 2) (v := .int (gI σ 0 2)) hC hO0 hi_X8_tallyOf_X8 rfl (by decide) (by decide) rfl rfl fl20_X8_tallyOf dX8_tallyOf_18 rfl ?_
  obtain ⟨r3, s2, hc_1, h⟩ := bd2 h
  refine v_callVI hC xE_ok (n := 3) (As := [.int (gI σ 1 1), .int (gI σ 0 1), .int (gI σ 0 2)]) (k_X4_isOf l hG ((obX_1_2 hG hO1)) hc_1) (cwV 3 hC.1.2.2.2.2 gX8_tallyOf_X4_isOf rfl rfl rfl (by decide +kernel) ⟨(Nat.le_of_ble_eq_true rfl), (Nat.le_of_ble_eq_true rfl)⟩) (obX_1_2 hG hO1) (by decide) rfl rfl rfl (Nat.le_of_ble_eq_true rfl) ⟨Nat.zero_le _, Nat.zero_le _⟩ dX8_tallyOf_21 rfl ?_
  refine v_if_ne (tgt := 122) hC dX8_tallyOf_24 (by decide) (fun c_4 => ?_) (fun c_4 => ?_)
  · replace h := ifn c_4 h
    refine v_aload_n hC dX8_tallyOf_122 2 rfl ?_
    exact v_aret (o := (some (i1 + 1))) hC rfl (Or.inl ⟨_, rfl⟩) dX8_tallyOf_123 h
  · replace h := ift c_4 h
    refine v_aload_n hC dX8_tallyOf_27 2 rfl ?_
    refine v_aload_n hC dX8_tallyOf_28 0 rfl ?_
    refine v_get (C := RX8) (T := TX8) (N := 20) (ci := 7) (k := 0) (v := .ref (G.2.2.1 1)) hC hO0 hi_X8_tallyOf_X8 rfl (by decide) (by decide) rfl rfl fl10_X8_tallyOf dX8_tallyOf_29 rfl ?_
    refine v_getN (C := RX0) (T := TX0) (N := 5) (ci := 0) (k := 1) (v := .int (gI s2 1 1)) hC (obX_7_0 hG hO0) hi_X8_tallyOf_X0 rfl (by decide) (by decide) rfl rfl (xE_nf_X8_124 hC.2.2.2.2.2) dX8_tallyOf_32 rfl ?_
    refine v_aload_n hC dX8_tallyOf_35 0 rfl ?_
    refine v_get (C := RX8) (T := TX8) (N := 20) (ci := 7) (k := 1) (v := .int (gI s2 0 1)) hC hO0 hi_X8_tallyOf_X8 rfl (by decide) (by decide) rfl rfl fl16_X8_tallyOf dX8_tallyOf_36 rfl ?_
    refine v_aload_n hC dX8_tallyOf_39 0 rfl ?_
    refine v_get (C := RX8) (T := TX8) (N := 20) (ci := 7) (k := 2) (v := .int (gI s2 0 2)) hC hO0 hi_X8_tallyOf_X8 rfl (by decide) (by decide) rfl rfl fl20_X8_tallyOf dX8_tallyOf_40 rfl ?_
    obtain ⟨s6, hc_5, h⟩ := bd1 h
    refine v_callVV hC xE_ok (n := 3) (As := [.int (gI s2 1 1), .int (gI s2 0 1), .int (gI s2 0 2)]) (k_X4_begin l hG ((obX_1_2 hG hO1)) hc_5) (cwV 3 hC.1.2.2.2.2 gX8_tallyOf_X4_begin rfl rfl rfl (by decide +kernel) ⟨(Nat.le_of_ble_eq_true rfl), (Nat.le_of_ble_eq_true rfl)⟩) (obX_1_2 hG hO1) (by decide) rfl rfl rfl (Nat.le_of_ble_eq_true rfl) ⟨Nat.zero_le _, Nat.zero_le _⟩ dX8_tallyOf_43 rfl ?_
    refine v_aload_n hC dX8_tallyOf_46 0 rfl ?_
    refine v_get (C := RX8) (T := TX8) (N := 20) (ci := 7) (k := 16) (v := .ref (G.2.2.1 5)) hC hO0 hi_X8_tallyOf_X8 rfl (by decide) (by decide) rfl rfl fl78_X8_tallyOf dX8_tallyOf_47 rfl ?_
    refine v_aload_n hC dX8_tallyOf_50 0 rfl ?_
    refine v_get (C := RX8) (T := TX8) (N := 20) (ci := 7) (k := 0) (v := .ref (G.2.2.1 1)) hC hO0 hi_X8_tallyOf_X8 rfl (by decide) (by decide) rfl rfl fl10_X8_tallyOf dX8_tallyOf_51 rfl ?_
    refine v_getN (C := RX0) (T := TX0) (N := 5) (ci := 0) (k := 1) (v := .int (gI s6 1 1)) hC (obX_7_0 hG hO0) hi_X8_tallyOf_X0 rfl (by decide) (by decide) rfl rfl (xE_nf_X8_124 hC.2.2.2.2.2) dX8_tallyOf_54 rfl ?_
    obtain ⟨s8, hc_7, h⟩ := bd1 h
    refine v_callVV hC xE_ok (n := 1) (As := [.int (gI s6 1 1)]) (k_X0_layOwn l hG ((obX_7_16 hG hO0)) hc_7) (cwV 1 hC.1.2.2.2.2 gX8_tallyOf_X0_layOwn rfl rfl rfl (by decide +kernel) ⟨(Nat.le_of_ble_eq_true rfl), (Nat.le_of_ble_eq_true rfl)⟩) (obX_7_16 hG hO0) (by decide) rfl rfl rfl (Nat.le_of_ble_eq_true rfl) ⟨Nat.zero_le _, Nat.zero_le _⟩ dX8_tallyOf_57 rfl ?_
    refine v_aload_n hC dX8_tallyOf_60 0 rfl ?_
    refine v_get (C := RX8) (T := TX8) (N := 20) (ci := 7) (k := 0) (v := .ref (G.2.2.1 1)) hC hO0 hi_X8_tallyOf_X8 rfl (by decide) (by decide) rfl rfl fl10_X8_tallyOf dX8_tallyOf_61 rfl ?_
    refine v_getN (C := RX0) (T := TX0) (N := 5) (ci := 0) (k := 1) (v := .int (gI s8 1 1)) hC (obX_7_0 hG hO0) hi_X8_tallyOf_X0 rfl (by decide) (by decide) rfl rfl (xE_nf_X8_124 hC.2.2.2.2.2) dX8_tallyOf_64 rfl ?_
    obtain ⟨r11, s10, hc_9, h⟩ := bd2 h
    refine v_callSJ hC xE_ok (n := 1) (As := [.int (gI s8 1 1)]) (k_X8_factorial l hG hc_9) (va_cwS 1 hC.1.2.2.2.2 gX8_tallyOf_X8_factorial rfl rfl rfl (by decide +kernel) ⟨(Nat.le_of_ble_eq_true rfl), (Nat.le_of_ble_eq_true rfl)⟩) rfl (Nat.le_of_ble_eq_true rfl) ⟨Nat.zero_le _, Nat.zero_le _⟩ dX8_tallyOf_67 rfl ?_
    refine v_lstore_n (L' := [(0, .ref (G.2.2.1 0)), (1, .ref (G.2.2.1 i1)), (2, .ref (G.2.2.1 (i1 + 1))), (3, .long r11)]) hC dX8_tallyOf_70 (by decide) [1, 2, 3, 0] rfl ?_
    refine v_lconst (v := 0) hC dX8_tallyOf_71 (by decide) ?_
    refine v_lstore (L' := [(0, .ref (G.2.2.1 0)), (1, .ref (G.2.2.1 i1)), (2, .ref (G.2.2.1 (i1 + 1))), (3, .long r11), (5, .long 0)]) hC dX8_tallyOf_72 (by decide) [1, 2, 3, 4, 0] rfl ?_
    exact w_X8_tallyOf_74 hG (hO0) (hO1) ((obX_1_2 hG hO1)) hC FU _ _ _ h
theorem k_X8_tallyOf {adK adV : Nat → Nat} {tb : Nat} (l : Launch) {G : WD}  {r0 : Option Nat} {τ : HS} {i1 : Nat} {σ : HS}  (hG : GX G xY) (hO0 : Ob G xY 0 7) (hO1 : Ob G xY i1 1) (h : c_X8_tallyOf i1 σ = some (r0, τ)) : MR (xE adK adV tb) l yX8_tallyOf wsX8_tallyOf rmX8_tallyOf G xY [.ref (G.2.2.1 0), .ref (G.2.2.1 i1)] σ r0 τ :=
  MR.of RX8 (by decide) rfl rfl (Nat.le_of_ble_eq_true rfl) rfl rfl (fun p e s m below meth c hC => w_X8_tallyOf  hG hO0 hO1 hC h)
theorem rok_tallyOf_74 {i1 i2 : Nat} : ∀ (n : Nat) (x3 x5 : Int64) (σ : HS) {r : Option Nat} {s : HS}, c_X8_tallyOf_74 n i1 i2 x3 x5 σ = some (r, s) → r = some i2 := by
  intro n
  induction n with
  | zero => intro x3 x5 σ r s h; exact nof h
  | succ n ih =>
    intro x3 x5 σ r s h
    rw [c_X8_tallyOf_74] at h
    split at h
    · simp only [Option.some.injEq, Prod.mk.injEq] at h
      exact h.1.symm
    · obtain ⟨s1, -, h⟩ := bd1 h
      obtain ⟨r2, s2, -, h⟩ := bd2 h
      obtain ⟨s3, -, h⟩ := bd1 h
      obtain ⟨s4, -, h⟩ := bd1 h
      exact ih _ _ _ h
theorem tallyOf_id {i1 : Nat} {σ : HS} {r : Option Nat} {s : HS} (hc : c_X8_tallyOf i1 σ = some (r, s)) : r = some (i1 + 1) := by
  rw [c_X8_tallyOf] at hc
  obtain ⟨r1, s1, -, hc⟩ := bd2 hc
  split at hc
  · obtain ⟨s2, -, hc⟩ := bd1 hc
    obtain ⟨s3, -, hc⟩ := bd1 hc
    obtain ⟨r4, s4, -, hc⟩ := bd2 hc
    exact rok_tallyOf_74 _ _ _ _ hc
  · simp only [Option.some.injEq, Prod.mk.injEq] at hc
    exact hc.1.symm
theorem rok_tallyOf {G : WD} {i1 : Nat} {σ s : HS} {r : Option Nat} (hG : GX G xY) (_ : Ob G xY 0 7) (hO1 : Ob G xY i1 1) (_ : wt G xY s) (hc : c_X8_tallyOf i1 σ = some (r, s)) : ∀ j, r = some j → Ob G xY j 4 := by
  intro j hj
  have := (tallyOf_id hc).symm.trans hj
  cases this
  exact obX_1_2 hG hO1

