theorem lc219_X8_wins : Jvm.Cond.constantLong RX8 219 (-4611686018427387904) ∈ wsX8_wins := by decide +kernel
theorem fl10_X8_wins : Cond.fieldLink RX8 10 RX8 (TX8 0).2.1 (TX8 0).2.2.1 ∈ wsX8_wins := by decide +kernel
theorem hi_X8_wins_X8 : ∀ w ∈ u_ws RX8 TX8 20, w ∈ wsX8_wins := by decide +kernel
theorem hi_X8_wins_X0 : ∀ w ∈ u_ws RX0 TX0 5, w ∈ wsX8_wins := by decide +kernel
theorem hi_X8_wins_X4 : ∀ w ∈ u_ws RX4 TX4 7, w ∈ wsX8_wins := by decide +kernel
theorem lc219_X8_mean : Jvm.Cond.constantLong RX8 219 (-4611686018427387904) ∈ wsX8_mean := by decide +kernel
theorem hi_X8_mean_X4 : ∀ w ∈ u_ws RX4 TX4 7, w ∈ wsX8_mean := by decide +kernel
theorem fl10_X8_mean : Cond.fieldLink RX8 10 RX8 (TX8 0).2.1 (TX8 0).2.2.1 ∈ wsX8_mean := by decide +kernel
theorem hi_X8_mean_X8 : ∀ w ∈ u_ws RX8 TX8 20, w ∈ wsX8_mean := by decide +kernel
theorem hi_X8_mean_X0 : ∀ w ∈ u_ws RX0 TX0 5, w ∈ wsX8_mean := by decide +kernel
theorem hi_X8_worst_X4 : ∀ w ∈ u_ws RX4 TX4 7, w ∈ wsX8_worst := by decide +kernel
theorem hi_X8_drawsThatWin_X0 : ∀ w ∈ u_ws RX0 TX0 5, w ∈ wsX8_drawsThatWin := by decide +kernel
theorem fl39_X8_drawsThatWin : Cond.fieldLink RX8 39 RX8 (TX8 9).2.1 (TX8 9).2.2.1 ∈ wsX8_drawsThatWin := by decide +kernel
theorem hi_X8_drawsThatWin_X8 : ∀ w ∈ u_ws RX8 TX8 20, w ∈ wsX8_drawsThatWin := by decide +kernel
theorem fl92_X8_leastDraws : Cond.fieldLink RX8 92 RX8 (TX8 19).2.1 (TX8 19).2.2.1 ∈ wsX8_leastDraws := by decide +kernel
theorem hi_X8_leastDraws_X8 : ∀ w ∈ u_ws RX8 TX8 20, w ∈ wsX8_leastDraws := by decide +kernel
theorem fl10_X8_leastDraws : Cond.fieldLink RX8 10 RX8 (TX8 0).2.1 (TX8 0).2.2.1 ∈ wsX8_leastDraws := by decide +kernel
theorem hi_X8_leastDraws_X0 : ∀ w ∈ u_ws RX0 TX0 5, w ∈ wsX8_leastDraws := by decide +kernel
theorem fl16_X8_leastDraws : Cond.fieldLink RX8 16 RX8 (TX8 1).2.1 (TX8 1).2.2.1 ∈ wsX8_leastDraws := by decide +kernel
theorem fl20_X8_leastDraws : Cond.fieldLink RX8 20 RX8 (TX8 2).2.1 (TX8 2).2.2.1 ∈ wsX8_leastDraws := by decide +kernel
theorem hi_X8_leastDraws_X4 : ∀ w ∈ u_ws RX4 TX4 7, w ∈ wsX8_leastDraws := by decide +kernel
theorem fl78_X8_leastDraws : Cond.fieldLink RX8 78 RX8 (TX8 16).2.1 (TX8 16).2.2.1 ∈ wsX8_leastDraws := by decide +kernel
theorem fl10_X8_draws : Cond.fieldLink RX8 10 RX8 (TX8 0).2.1 (TX8 0).2.2.1 ∈ wsX8_draws := by decide +kernel
theorem hi_X8_draws_X8 : ∀ w ∈ u_ws RX8 TX8 20, w ∈ wsX8_draws := by decide +kernel
theorem lc219_X8_costs : Jvm.Cond.constantLong RX8 219 (-4611686018427387904) ∈ wsX8_costs := by decide +kernel
theorem fl45_X8_costs : Cond.fieldLink RX8 45 RX8 (TX8 10).2.1 (TX8 10).2.2.1 ∈ wsX8_costs := by decide +kernel
theorem hi_X8_costs_X8 : ∀ w ∈ u_ws RX8 TX8 20, w ∈ wsX8_costs := by decide +kernel
theorem hi_X8_costs_X4 : ∀ w ∈ u_ws RX4 TX4 7, w ∈ wsX8_costs := by decide +kernel
theorem fl10_X8_help : Cond.fieldLink RX8 10 RX8 (TX8 0).2.1 (TX8 0).2.2.1 ∈ wsX8_help := by decide +kernel
theorem hi_X8_help_X8 : ∀ w ∈ u_ws RX8 TX8 20, w ∈ wsX8_help := by decide +kernel
theorem hi_X8_help_X0 : ∀ w ∈ u_ws RX0 TX0 5, w ∈ wsX8_help := by decide +kernel
theorem fl78_X8_help : Cond.fieldLink RX8 78 RX8 (TX8 16).2.1 (TX8 16).2.2.1 ∈ wsX8_help := by decide +kernel
theorem fl16_X8_help : Cond.fieldLink RX8 16 RX8 (TX8 1).2.1 (TX8 1).2.2.1 ∈ wsX8_help := by decide +kernel
theorem lc280_X8_enough : Jvm.Cond.constantLong RX8 280 100 ∈ wsX8_enough := by decide +kernel
theorem hi_X8_holdsWeights_X3 : ∀ w ∈ u_ws RX3 TX3 3, w ∈ wsX8_holdsWeights := by decide +kernel
theorem hi_X8_heaviestBut_X3 : ∀ w ∈ u_ws RX3 TX3 3, w ∈ wsX8_heaviestBut := by decide +kernel
theorem hi_X8_order_X3 : ∀ w ∈ u_ws RX3 TX3 3, w ∈ wsX8_order := by decide +kernel
theorem fl10_X8_order : Cond.fieldLink RX8 10 RX8 (TX8 0).2.1 (TX8 0).2.2.1 ∈ wsX8_order := by decide +kernel
theorem hi_X8_order_X8 : ∀ w ∈ u_ws RX8 TX8 20, w ∈ wsX8_order := by decide +kernel
theorem hi_X8_order_X0 : ∀ w ∈ u_ws RX0 TX0 5, w ∈ wsX8_order := by decide +kernel
theorem fl23_X8_image : Cond.fieldLink RX8 23 RX8 (TX8 3).2.1 (TX8 3).2.2.1 ∈ wsX8_image := by decide +kernel
theorem hi_X8_image_X8 : ∀ w ∈ u_ws RX8 TX8 20, w ∈ wsX8_image := by decide +kernel
theorem fl10_X8_image : Cond.fieldLink RX8 10 RX8 (TX8 0).2.1 (TX8 0).2.2.1 ∈ wsX8_image := by decide +kernel
theorem fl16_X8_image : Cond.fieldLink RX8 16 RX8 (TX8 1).2.1 (TX8 1).2.2.1 ∈ wsX8_image := by decide +kernel
theorem fl289_X8_image : Cond.fieldLink RX8 289 RX8 (TX8 4).2.1 (TX8 4).2.2.1 ∈ wsX8_image := by decide +kernel
theorem fl20_X8_image : Cond.fieldLink RX8 20 RX8 (TX8 2).2.1 (TX8 2).2.2.1 ∈ wsX8_image := by decide +kernel
theorem fl292_X8_image : Cond.fieldLink RX8 292 RX8 (TX8 5).2.1 (TX8 5).2.2.1 ∈ wsX8_image := by decide +kernel
theorem fl26_X8_image : Cond.fieldLink RX8 26 RX8 (TX8 6).2.1 (TX8 6).2.2.1 ∈ wsX8_image := by decide +kernel
theorem hi_X8_image_X0 : ∀ w ∈ u_ws RX0 TX0 5, w ∈ wsX8_image := by decide +kernel
theorem fl26_X8_back : Cond.fieldLink RX8 26 RX8 (TX8 6).2.1 (TX8 6).2.2.1 ∈ wsX8_back := by decide +kernel
theorem hi_X8_back_X8 : ∀ w ∈ u_ws RX8 TX8 20, w ∈ wsX8_back := by decide +kernel
theorem fl10_X8_back : Cond.fieldLink RX8 10 RX8 (TX8 0).2.1 (TX8 0).2.2.1 ∈ wsX8_back := by decide +kernel
theorem fl23_X8_back : Cond.fieldLink RX8 23 RX8 (TX8 3).2.1 (TX8 3).2.2.1 ∈ wsX8_back := by decide +kernel
theorem fl289_X8_back : Cond.fieldLink RX8 289 RX8 (TX8 4).2.1 (TX8 4).2.2.1 ∈ wsX8_back := by decide +kernel
theorem fl16_X8_back : Cond.fieldLink RX8 16 RX8 (TX8 1).2.1 (TX8 1).2.2.1 ∈ wsX8_back := by decide +kernel
theorem fl292_X8_back : Cond.fieldLink RX8 292 RX8 (TX8 5).2.1 (TX8 5).2.2.1 ∈ wsX8_back := by decide +kernel
theorem fl20_X8_back : Cond.fieldLink RX8 20 RX8 (TX8 2).2.1 (TX8 2).2.2.1 ∈ wsX8_back := by decide +kernel
theorem hi_X8_back_X0 : ∀ w ∈ u_ws RX0 TX0 5, w ∈ wsX8_back := by decide +kernel
theorem fl10_X8_count : Cond.fieldLink RX8 10 RX8 (TX8 0).2.1 (TX8 0).2.2.1 ∈ wsX8_count := by decide +kernel
theorem hi_X8_count_X8 : ∀ w ∈ u_ws RX8 TX8 20, w ∈ wsX8_count := by decide +kernel
theorem hi_X8_count_X0 : ∀ w ∈ u_ws RX0 TX0 5, w ∈ wsX8_count := by decide +kernel
theorem fl16_X8_count : Cond.fieldLink RX8 16 RX8 (TX8 1).2.1 (TX8 1).2.2.1 ∈ wsX8_count := by decide +kernel
theorem fl36_X8_count : Cond.fieldLink RX8 36 RX8 (TX8 8).2.1 (TX8 8).2.2.1 ∈ wsX8_count := by decide +kernel
theorem fl55_X8_count : Cond.fieldLink RX8 55 RX8 (TX8 12).2.1 (TX8 12).2.2.1 ∈ wsX8_count := by decide +kernel
theorem fl61_X8_count : Cond.fieldLink RX8 61 RX8 (TX8 13).2.1 (TX8 13).2.2.1 ∈ wsX8_count := by decide +kernel
theorem hi_X8_count_X5 : ∀ w ∈ u_ws RX5 TX5 2, w ∈ wsX8_count := by decide +kernel
theorem fl20_X8_count : Cond.fieldLink RX8 20 RX8 (TX8 2).2.1 (TX8 2).2.2.1 ∈ wsX8_count := by decide +kernel
theorem hi_X8_copy_X3 : ∀ w ∈ u_ws RX3 TX3 3, w ∈ wsX8_copy := by decide +kernel
theorem ac310_X8_copy : Cond.methodLink RX8 310 arraycopyName ∈ wsX8_copy ∧ Cond.native arraycopyName ∈ wsX8_copy ∧ Cond.static arraycopyName ∈ wsX8_copy ∧ Cond.initialized "java/lang/System" ∈ wsX8_copy := by decide +kernel
theorem hi_X8_taken_X1 : ∀ w ∈ u_ws RX1 TX1 3, w ∈ wsX8_taken := by decide +kernel
abbrev rmX8_wins : Room := { frames := 6, cells := 0, slots := 0, locals := 138 }
def c_X8_wins (p1 : Int32) (p2 : Int32) (σ : HS) : Option (Int64 × HS) := (bi2 (c_X8_planAt p1 σ) (fun r3 s2 => (mo r3 (some ((-4611686018427387904), s2)) (fun j5 => (if p2 < 0 then (some ((-4611686018427387904), s2)) else (if 1 < p2 then (some ((-4611686018427387904), s2)) else (bi2 (c_X8_hasTooManyLayings s2) (fun r10 s9 => (if r10 = 0 then (if p2 = 0 then (bi2 (c_X8_tallyOf j5 s9) (fun r18 s17 => (mr r18 (fun j20 => (some ((Int32.toInt64 (gI s17 j20 3)), s17)))))) else (bi2 (c_X8_factorial (gI s9 1 1) s9) (fun r15 s14 => (some (r15, s14))))) else (some ((-4611686018427387904), s9)))))))))))
set_option maxHeartbeats 4000000 in
set_option maxRecDepth 100000 in
theorem w_X8_wins {adK adV : Nat → Nat} {tb : Nat} {p : Program} {l : Launch} {e : Env} {s : State} {m : MethodId} {args : Array Value} {below : List Frame} {meth : Method} {c : Code} {A : Nat → Prop} {G : WD}  {r0 : Int64} {τ : HS} {p1 : Int32} {p2 : Int32} {σ : HS}  (hG : GX G xY) (hO0 : Ob G xY 0 7) (hC : Cx (xE adK adV tb) G.1 G.2.1 xY cX8_wins 4 (some .long) RX8 wsX8_wins p s m args meth c A) (h : c_X8_wins p1 p2 σ = some (r0, τ)) : V p l e rmX8_wins s m args below meth c 4 A G xY 0 0 (MQ below (QJ G xY A r0 τ) args s 0 0 A) σ 0 [(0, .ref (G.2.2.1 0)), (1, .int p1), (2, .int p2)] [] := by
  rw [c_X8_wins] at h
  refine v_aload_n hC dX8_wins_0 0 rfl ?_
  refine v_iload_n hC dX8_wins_1 1 rfl ?_
  obtain ⟨r3, s2, hc_1, h⟩ := bd2 h
  refine v_callVR hC xE_ok (n := 1) (As := [.int p1]) (k_X8_planAt l hG (hO0) hc_1) (cwV 1 hC.1.2.2.2.2 gX8_wins_X8_planAt rfl rfl rfl (by decide +kernel) ⟨(Nat.le_of_ble_eq_true rfl), (Nat.le_of_ble_eq_true rfl)⟩) hO0 (by decide) rfl rfl rfl (Nat.le_of_ble_eq_true rfl) ⟨Nat.zero_le _, Nat.zero_le _⟩ dX8_wins_2 rfl ?_
  refine v_wt (fun hv_4 => ?_)
  refine v_astore_nR (L' := [(0, .ref (G.2.2.1 0)), (2, .int p2), (3, rv G.2.2.1 r3)]) hC dX8_wins_5 (by decide) [1, 3, 0] rfl ?_
  refine v_aload_nR hC dX8_wins_6 2 rfl ?_
  cases r3 with
  | none =>
    replace h := mo_n h
    refine v_ifnull_t (tgt := 26) hC dX8_wins_7 (by decide) ?_
    refine v_ldc2 (v := (-4611686018427387904)) hC lc219_X8_wins dX8_wins_26 ?_
    exact v_lret hC rfl dX8_wins_29 h
  | some j5 =>
    replace h := mo_s h
    refine v_ifnull_f hC dX8_wins_7 ?_
    refine V.sub (L' := [(0, .ref (G.2.2.1 0)), (2, .int p2), (3, .ref (G.2.2.1 j5))]) [0, 1, 2] rfl ?_
    refine v_iload_n hC dX8_wins_10 1 rfl ?_
    refine v_if_lt (tgt := 26) hC dX8_wins_11 (by decide) (fun c_6 => ?_) (fun c_6 => ?_)
    · replace h := ift c_6 h
      refine v_ldc2 (v := (-4611686018427387904)) hC lc219_X8_wins dX8_wins_26 ?_
      exact v_lret hC rfl dX8_wins_29 h
    · replace h := ifn c_6 h
      refine v_iload_n hC dX8_wins_14 1 rfl ?_
      refine v_iconst (v := 1) hC dX8_wins_15 (by decide) ?_
      refine v_icmp_gt (tgt := 26) hC dX8_wins_16 (by decide) (fun c_7 => ?_) (fun c_7 => ?_)
      · replace h := ift c_7 h
        refine v_ldc2 (v := (-4611686018427387904)) hC lc219_X8_wins dX8_wins_26 ?_
        exact v_lret hC rfl dX8_wins_29 h
      · replace h := ifn c_7 h
        refine v_aload_n hC dX8_wins_19 0 rfl ?_
        obtain ⟨r10, s9, hc_8, h⟩ := bd2 h
        refine v_callVI hC xE_ok (n := 0) (As := []) (k_X8_hasTooManyLayings l hG (hO0) hc_8) (cwV 0 hC.1.2.2.2.2 gX8_wins_X8_hasTooManyLayings rfl rfl rfl (by decide +kernel) ⟨(Nat.le_of_ble_eq_true rfl), (Nat.le_of_ble_eq_true rfl)⟩) hO0 (by decide) rfl rfl rfl (Nat.le_of_ble_eq_true rfl) ⟨Nat.zero_le _, Nat.zero_le _⟩ dX8_wins_20 rfl ?_
        refine v_if_eq (tgt := 30) hC dX8_wins_23 (by decide) (fun c_11 => ?_) (fun c_11 => ?_)
        · replace h := ift c_11 h
          refine v_iload_n hC dX8_wins_30 1 rfl ?_
          refine v_if_ne (tgt := 46) hC dX8_wins_31 (by decide) (fun c_12 => ?_) (fun c_12 => ?_)
          · replace h := ifn c_12 h
            refine v_aload_n hC dX8_wins_46 0 rfl ?_
            refine v_get (C := RX8) (T := TX8) (N := 20) (ci := 7) (k := 0) (v := .ref (G.2.2.1 1)) hC hO0 hi_X8_wins_X8 rfl (by decide) (by decide) rfl rfl fl10_X8_wins dX8_wins_47 rfl ?_
            refine v_getN (C := RX0) (T := TX0) (N := 5) (ci := 0) (k := 1) (v := .int (gI s9 1 1)) hC (obX_7_0 hG hO0) hi_X8_wins_X0 rfl (by decide) (by decide) rfl rfl (xE_nf_X8_124 hC.2.2.2.2.2) dX8_wins_50 rfl ?_
            obtain ⟨r15, s14, hc_13, h⟩ := bd2 h
            refine v_callSJ hC xE_ok (n := 1) (As := [.int (gI s9 1 1)]) (k_X8_factorial l hG hc_13) (va_cwS 1 hC.1.2.2.2.2 gX8_wins_X8_factorial rfl rfl rfl (by decide +kernel) ⟨(Nat.le_of_ble_eq_true rfl), (Nat.le_of_ble_eq_true rfl)⟩) rfl (Nat.le_of_ble_eq_true rfl) ⟨Nat.zero_le _, Nat.zero_le _⟩ dX8_wins_53 rfl ?_
            exact v_lret hC rfl dX8_wins_56 h
          · replace h := ift c_12 h
            refine v_aload_n hC dX8_wins_34 0 rfl ?_
            refine v_aload_n hC dX8_wins_35 2 rfl ?_
            obtain ⟨r18, s17, hc_16, h⟩ := bd2 h
            refine v_callVR hC xE_ok (n := 1) (As := [.ref (G.2.2.1 j5)]) (k_X8_tallyOf l hG (hO0) ((show Ob G xY j5 1 from (rok_planAt hG (hO0) hv_4 hc_1) j5 rfl)) hc_16) (cwV 1 hC.1.2.2.2.2 gX8_wins_X8_tallyOf rfl rfl rfl (by decide +kernel) ⟨(Nat.le_of_ble_eq_true rfl), (Nat.le_of_ble_eq_true rfl)⟩) hO0 (by decide) rfl rfl rfl (Nat.le_of_ble_eq_true rfl) ⟨Nat.zero_le _, Nat.zero_le _⟩ dX8_wins_36 rfl ?_
            refine v_wt (fun hv_19 => ?_)
            obtain ⟨j20, hj21, h⟩ := mrd h
            rw [hj21]
            rw [rv_s]
            refine v_getN (C := RX4) (T := TX4) (N := 7) (ci := 4) (k := 3) (v := .int (gI s17 j20 3)) hC (show Ob G xY j20 4 from (rok_tallyOf hG (hO0) ((show Ob G xY j5 1 from (rok_planAt hG (hO0) hv_4 hc_1) j5 rfl)) hv_19 hc_16) j20 hj21) hi_X8_wins_X4 rfl (by decide) (by decide) rfl rfl (xE_nf_X8_232 hC.2.2.2.2.2) dX8_wins_39 rfl ?_
            refine v_i2l hC dX8_wins_42 ?_
            refine v_goto (tgt := 56) hC dX8_wins_43 (by decide) ?_
            exact v_lret hC rfl dX8_wins_56 h
        · replace h := ifn c_11 h
          refine v_ldc2 (v := (-4611686018427387904)) hC lc219_X8_wins dX8_wins_26 ?_
          exact v_lret hC rfl dX8_wins_29 h
theorem k_X8_wins {adK adV : Nat → Nat} {tb : Nat} (l : Launch) {G : WD}  {r0 : Int64} {τ : HS} {p1 : Int32} {p2 : Int32} {σ : HS}  (hG : GX G xY) (hO0 : Ob G xY 0 7) (h : c_X8_wins p1 p2 σ = some (r0, τ)) : MJ (xE adK adV tb) l yX8_wins wsX8_wins rmX8_wins G xY [.ref (G.2.2.1 0), .int p1, .int p2] σ r0 τ :=
  MJ.of RX8 (by decide) rfl rfl (Nat.le_of_ble_eq_true rfl) rfl rfl (fun p e s m below meth c hC => w_X8_wins  hG hO0 hC h)
abbrev rmX8_commonDivisor : Room := { frames := 0, cells := 0, slots := 0, locals := 0 }
def c_X8_commonDivisor_3 : Nat → Int64 → Int64 → Int32 → HS → Option (Int64 × HS)
  | 0, _, _, _, _ => none
  | n + 1, x0, x2, x4, σ => (if 200 ≤ x4 then (some (x0, σ)) else (if (lg_cmp x2 0) = 0 then (some (x0, σ)) else (if x2 = 0 then none else (c_X8_commonDivisor_3 n x2 (lrm x0 x2) (x4 + 1) σ))))
set_option maxHeartbeats 4000000 in
set_option maxRecDepth 100000 in
theorem w_X8_commonDivisor_3 {adK adV : Nat → Nat} {tb : Nat} {p : Program} {l : Launch} {e : Env} {s : State} {m : MethodId} {args : Array Value} {below : List Frame} {meth : Method} {c : Code} {A : Nat → Prop} {G : WD}  {r0 : Int64} {τ : HS}   (hG : GX G xY)  (hC : Cx (xE adK adV tb) G.1 G.2.1 xY cX8_commonDivisor 7 (some .long) RX8 wsX8_commonDivisor p s m args meth c A)  : ∀ (n : Nat) (x0 : Int64) (x2 : Int64) (x4 : Int32) (σ : HS), c_X8_commonDivisor_3 n x0 x2 x4 σ = some (r0, τ) → V p l e rmX8_commonDivisor s m args below meth c 7 A G xY 0 0 (MQ below (QJ G xY A r0 τ) args s 0 0 A) σ 3 [(0, .long x0), (2, .long x2), (4, .int x4)] [] := by
  intro n
  induction n with
  | zero => intro x0 x2 x4 σ h; exact nof h
  | succ n ih =>
    intro x0 x2 x4 σ h
    rw [c_X8_commonDivisor_3] at h
    refine v_iload hC dX8_commonDivisor_3 2 rfl ?_
    refine v_sipush (v := 200) hC dX8_commonDivisor_5 (by decide) ?_
    refine v_icmp_ge (tgt := 33) hC dX8_commonDivisor_8 (by decide) (fun c_1 => ?_) (fun c_1 => ?_)
    · replace h := ift c_1 h
      refine v_lload_n hC dX8_commonDivisor_33 0 rfl ?_
      exact v_lret hC rfl dX8_commonDivisor_34 h
    · replace h := ifn c_1 h
      refine v_lload_n hC dX8_commonDivisor_11 1 rfl ?_
      refine v_lconst (v := 0) hC dX8_commonDivisor_12 (by decide) ?_
      refine v_lcmp hC dX8_commonDivisor_13 ?_
      refine v_if_eq (tgt := 33) hC dX8_commonDivisor_14 (by decide) (fun c_2 => ?_) (fun c_2 => ?_)
      · replace h := ift c_2 h
        refine v_lload_n hC dX8_commonDivisor_33 0 rfl ?_
        exact v_lret hC rfl dX8_commonDivisor_34 h
      · replace h := ifn c_2 h
        refine v_lload_n hC dX8_commonDivisor_17 0 rfl ?_
        refine v_lload_n hC dX8_commonDivisor_18 1 rfl ?_
        obtain ⟨g_3, h⟩ := gdn h
        refine v_lrem hC dX8_commonDivisor_19 g_3 ?_
        refine v_lstore (L' := [(2, .long x2), (4, .int x4), (5, .long (lrm x0 x2))]) hC dX8_commonDivisor_20 (by decide) [2, 3, 0] rfl ?_
        refine v_lload_n hC dX8_commonDivisor_22 0 rfl ?_
        refine v_lstore_n (L' := [(0, .long x2), (4, .int x4), (5, .long (lrm x0 x2))]) hC dX8_commonDivisor_23 (by decide) [0, 2, 3] rfl ?_
        refine v_lload hC dX8_commonDivisor_24 2 rfl ?_
        refine v_lstore_n (L' := [(0, .long x2), (2, .long (lrm x0 x2)), (4, .int x4)]) hC dX8_commonDivisor_26 (by decide) [1, 0, 2] rfl ?_
        refine v_iinc (v := (x4 + 1)) (L' := [(0, .long x2), (2, .long (lrm x0 x2)), (4, .int (x4 + 1))]) hC dX8_commonDivisor_27 2 rfl rfl (by decide) [1, 2, 0] rfl ?_
        refine v_goto (tgt := 3) hC dX8_commonDivisor_30 (by decide) ?_
        exact ih _ _ _ _ h
def c_X8_commonDivisor (p0 : Int64) (p2 : Int64) (σ : HS) : Option (Int64 × HS) := (c_X8_commonDivisor_3 FU p0 p2 0 σ)
set_option maxHeartbeats 4000000 in
set_option maxRecDepth 100000 in
theorem w_X8_commonDivisor {adK adV : Nat → Nat} {tb : Nat} {p : Program} {l : Launch} {e : Env} {s : State} {m : MethodId} {args : Array Value} {below : List Frame} {meth : Method} {c : Code} {A : Nat → Prop} {G : WD}  {r0 : Int64} {τ : HS} {p0 : Int64} {p2 : Int64} {σ : HS}  (hG : GX G xY)  (hC : Cx (xE adK adV tb) G.1 G.2.1 xY cX8_commonDivisor 7 (some .long) RX8 wsX8_commonDivisor p s m args meth c A) (h : c_X8_commonDivisor p0 p2 σ = some (r0, τ)) : V p l e rmX8_commonDivisor s m args below meth c 7 A G xY 0 0 (MQ below (QJ G xY A r0 τ) args s 0 0 A) σ 0 [(0, .long p0), (2, .long p2)] [] := by
  rw [c_X8_commonDivisor] at h
  refine v_iconst (v := 0) hC dX8_commonDivisor_0 (by decide) ?_
  refine v_istore (L' := [(0, .long p0), (2, .long p2), (4, .int 0)]) hC dX8_commonDivisor_1 (by decide) [1, 2, 0] rfl ?_
  exact w_X8_commonDivisor_3 hG hC FU _ _ _ _ h
theorem k_X8_commonDivisor {adK adV : Nat → Nat} {tb : Nat} (l : Launch) {G : WD}  {r0 : Int64} {τ : HS} {p0 : Int64} {p2 : Int64} {σ : HS}  (hG : GX G xY)  (h : c_X8_commonDivisor p0 p2 σ = some (r0, τ)) : MJ (xE adK adV tb) l yX8_commonDivisor wsX8_commonDivisor rmX8_commonDivisor G xY [.long p0, .long p2] σ r0 τ :=
  MJ.of RX8 (by decide) rfl rfl (Nat.le_of_ble_eq_true rfl) rfl rfl (fun p e s m below meth c hC => w_X8_commonDivisor  hG  hC h)
abbrev rmX8_mean : Room := { frames := 6, cells := 0, slots := 0, locals := 138 }
def c_X8_mean (p1 : Int32) (p2 : Int32) (σ : HS) : Option (Int64 × HS) := (bi2 (c_X8_planAt p1 σ) (fun r3 s2 => (mo r3 (some ((-4611686018427387904), s2)) (fun j5 => (if p2 < 0 then (some ((-4611686018427387904), s2)) else (if 1 < p2 then (some ((-4611686018427387904), s2)) else (bi2 (c_X8_hasTooManyLayings s2) (fun r10 s9 => (if r10 = 0 then (bi2 (c_X8_tallyOf j5 s9) (fun r14 s13 => (mr r14 (fun j16 => (bi2 (c_X8_factorial (gI s13 1 1) s13) (fun r20 s19 => (bi2 (c_X8_commonDivisor r20 (gJ s13 j16 6) s19) (fun r23 s22 => (if 0 ≤ (lg_cmp r23 1) then (if p2 = 0 then (if r23 = 0 then none else (some (((gJ s13 j16 6) / r23), s22))) else (if r23 = 0 then none else (some ((r20 / r23), s22)))) else (some ((-4611686018427387904), s22))))))))))) else (some ((-4611686018427387904), s9)))))))))))
set_option maxHeartbeats 4000000 in
set_option maxRecDepth 100000 in
theorem w_X8_mean {adK adV : Nat → Nat} {tb : Nat} {p : Program} {l : Launch} {e : Env} {s : State} {m : MethodId} {args : Array Value} {below : List Frame} {meth : Method} {c : Code} {A : Nat → Prop} {G : WD}  {r0 : Int64} {τ : HS} {p1 : Int32} {p2 : Int32} {σ : HS}  (hG : GX G xY) (hO0 : Ob G xY 0 7) (hC : Cx (xE adK adV tb) G.1 G.2.1 xY cX8_mean 10 (some .long) RX8 wsX8_mean p s m args meth c A) (h : c_X8_mean p1 p2 σ = some (r0, τ)) : V p l e rmX8_mean s m args below meth c 10 A G xY 0 0 (MQ below (QJ G xY A r0 τ) args s 0 0 A) σ 0 [(0, .ref (G.2.2.1 0)), (1, .int p1), (2, .int p2)] [] := by
  rw [c_X8_mean] at h
  refine v_aload_n hC dX8_mean_0 0 rfl ?_
  refine v_iload_n hC dX8_mean_1 1 rfl ?_
  obtain ⟨r3, s2, hc_1, h⟩ := bd2 h
  refine v_callVR hC xE_ok (n := 1) (As := [.int p1]) (k_X8_planAt l hG (hO0) hc_1) (cwV 1 hC.1.2.2.2.2 gX8_mean_X8_planAt rfl rfl rfl (by decide +kernel) ⟨(Nat.le_of_ble_eq_true rfl), (Nat.le_of_ble_eq_true rfl)⟩) hO0 (by decide) rfl rfl rfl (Nat.le_of_ble_eq_true rfl) ⟨Nat.zero_le _, Nat.zero_le _⟩ dX8_mean_2 rfl ?_
  refine v_wt (fun hv_4 => ?_)
  refine v_astore_nR (L' := [(0, .ref (G.2.2.1 0)), (2, .int p2), (3, rv G.2.2.1 r3)]) hC dX8_mean_5 (by decide) [1, 3, 0] rfl ?_
  refine v_aload_nR hC dX8_mean_6 2 rfl ?_
  cases r3 with
  | none =>
    replace h := mo_n h
    refine v_ifnull_t (tgt := 26) hC dX8_mean_7 (by decide) ?_
    refine v_ldc2 (v := (-4611686018427387904)) hC lc219_X8_mean dX8_mean_26 ?_
    exact v_lret hC rfl dX8_mean_29 h
  | some j5 =>
    replace h := mo_s h
    refine v_ifnull_f hC dX8_mean_7 ?_
    refine V.sub (L' := [(0, .ref (G.2.2.1 0)), (2, .int p2), (3, .ref (G.2.2.1 j5))]) [0, 1, 2] rfl ?_
    refine v_iload_n hC dX8_mean_10 1 rfl ?_
    refine v_if_lt (tgt := 26) hC dX8_mean_11 (by decide) (fun c_6 => ?_) (fun c_6 => ?_)
    · replace h := ift c_6 h
      refine v_ldc2 (v := (-4611686018427387904)) hC lc219_X8_mean dX8_mean_26 ?_
      exact v_lret hC rfl dX8_mean_29 h
    · replace h := ifn c_6 h
      refine v_iload_n hC dX8_mean_14 1 rfl ?_
      refine v_iconst (v := 1) hC dX8_mean_15 (by decide) ?_
      refine v_icmp_gt (tgt := 26) hC dX8_mean_16 (by decide) (fun c_7 => ?_) (fun c_7 => ?_)
      · replace h := ift c_7 h
        refine v_ldc2 (v := (-4611686018427387904)) hC lc219_X8_mean dX8_mean_26 ?_
        exact v_lret hC rfl dX8_mean_29 h
      · replace h := ifn c_7 h
        refine v_aload_n hC dX8_mean_19 0 rfl ?_
        obtain ⟨r10, s9, hc_8, h⟩ := bd2 h
        refine v_callVI hC xE_ok (n := 0) (As := []) (k_X8_hasTooManyLayings l hG (hO0) hc_8) (cwV 0 hC.1.2.2.2.2 gX8_mean_X8_hasTooManyLayings rfl rfl rfl (by decide +kernel) ⟨(Nat.le_of_ble_eq_true rfl), (Nat.le_of_ble_eq_true rfl)⟩) hO0 (by decide) rfl rfl rfl (Nat.le_of_ble_eq_true rfl) ⟨Nat.zero_le _, Nat.zero_le _⟩ dX8_mean_20 rfl ?_
        refine v_if_eq (tgt := 30) hC dX8_mean_23 (by decide) (fun c_11 => ?_) (fun c_11 => ?_)
        · replace h := ift c_11 h
          refine v_aload_n hC dX8_mean_30 0 rfl ?_
          refine v_aload_n hC dX8_mean_31 2 rfl ?_
          obtain ⟨r14, s13, hc_12, h⟩ := bd2 h
          refine v_callVR hC xE_ok (n := 1) (As := [.ref (G.2.2.1 j5)]) (k_X8_tallyOf l hG (hO0) ((show Ob G xY j5 1 from (rok_planAt hG (hO0) hv_4 hc_1) j5 rfl)) hc_12) (cwV 1 hC.1.2.2.2.2 gX8_mean_X8_tallyOf rfl rfl rfl (by decide +kernel) ⟨(Nat.le_of_ble_eq_true rfl), (Nat.le_of_ble_eq_true rfl)⟩) hO0 (by decide) rfl rfl rfl (Nat.le_of_ble_eq_true rfl) ⟨Nat.zero_le _, Nat.zero_le _⟩ dX8_mean_32 rfl ?_
          refine v_wt (fun hv_15 => ?_)
          obtain ⟨j16, hj17, h⟩ := mrd h
          rw [hj17]
          rw [rv_s]
          refine v_getN (C := RX4) (T := TX4) (N := 7) (ci := 4) (k := 6) (v := .long (gJ s13 j16 6)) hC (show Ob G xY j16 4 from (rok_tallyOf hG (hO0) ((show Ob G xY j5 1 from (rok_planAt hG (hO0) hv_4 hc_1) j5 rfl)) hv_15 hc_12) j16 hj17) hi_X8_mean_X4 rfl (by decide) (by decide) rfl rfl (xE_nf_X8_239 hC.2.2.2.2.2) dX8_mean_35 rfl ?_
          refine v_lstore (L' := [(0, .ref (G.2.2.1 0)), (2, .int p2), (4, .long (gJ s13 j16 6))]) hC dX8_mean_38 (by decide) [1, 2, 0] rfl ?_
          refine v_aload_n hC dX8_mean_40 0 rfl ?_
          refine v_get (C := RX8) (T := TX8) (N := 20) (ci := 7) (k := 0) (v := .ref (G.2.2.1 1)) hC hO0 hi_X8_mean_X8 rfl (by decide) (by decide) rfl rfl fl10_X8_mean dX8_mean_41 rfl ?_
          refine v_getN (C := RX0) (T := TX0) (N := 5) (ci := 0) (k := 1) (v := .int (gI s13 1 1)) hC (obX_7_0 hG hO0) hi_X8_mean_X0 rfl (by decide) (by decide) rfl rfl (xE_nf_X8_124 hC.2.2.2.2.2) dX8_mean_44 rfl ?_
          obtain ⟨r20, s19, hc_18, h⟩ := bd2 h
          refine v_callSJ hC xE_ok (n := 1) (As := [.int (gI s13 1 1)]) (k_X8_factorial l hG hc_18) (va_cwS 1 hC.1.2.2.2.2 gX8_mean_X8_factorial rfl rfl rfl (by decide +kernel) ⟨(Nat.le_of_ble_eq_true rfl), (Nat.le_of_ble_eq_true rfl)⟩) rfl (Nat.le_of_ble_eq_true rfl) ⟨Nat.zero_le _, Nat.zero_le _⟩ dX8_mean_47 rfl ?_
          refine v_lstore (L' := [(2, .int p2), (4, .long (gJ s13 j16 6)), (6, .long r20)]) hC dX8_mean_50 (by decide) [2, 3, 0] rfl ?_
          refine v_lload hC dX8_mean_52 2 rfl ?_
          refine v_lload hC dX8_mean_54 1 rfl ?_
          obtain ⟨r23, s22, hc_21, h⟩ := bd2 h
          refine v_callSJ hC xE_ok (n := 2) (As := [.long r20, .long (gJ s13 j16 6)]) (k_X8_commonDivisor l hG hc_21) (va_cwS 2 hC.1.2.2.2.2 gX8_mean_X8_commonDivisor rfl rfl rfl (by decide +kernel) ⟨(Nat.le_of_ble_eq_true rfl), (Nat.le_of_ble_eq_true rfl)⟩) rfl (Nat.le_of_ble_eq_true rfl) ⟨Nat.zero_le _, Nat.zero_le _⟩ dX8_mean_56 rfl ?_
          refine v_lstore (L' := [(2, .int p2), (4, .long (gJ s13 j16 6)), (6, .long r20), (8, .long r23)]) hC dX8_mean_59 (by decide) [1, 2, 3, 0] rfl ?_
          refine v_lload hC dX8_mean_61 3 rfl ?_
          refine v_lconst (v := 1) hC dX8_mean_63 (by decide) ?_
          refine v_lcmp hC dX8_mean_64 ?_
          refine v_if_ge (tgt := 72) hC dX8_mean_65 (by decide) (fun c_24 => ?_) (fun c_24 => ?_)
          · replace h := ift c_24 h
            refine v_iload_n hC dX8_mean_72 0 rfl ?_
            refine v_if_ne (tgt := 84) hC dX8_mean_73 (by decide) (fun c_25 => ?_) (fun c_25 => ?_)
            · replace h := ifn c_25 h
              refine v_lload hC dX8_mean_84 2 rfl ?_
              refine v_lload hC dX8_mean_86 3 rfl ?_
              obtain ⟨g_26, h⟩ := gdn h
              refine v_ldiv hC dX8_mean_88 g_26 ?_
              exact v_lret hC rfl dX8_mean_89 h
            · replace h := ift c_25 h
              refine v_lload hC dX8_mean_76 1 rfl ?_
              refine v_lload hC dX8_mean_78 3 rfl ?_
              obtain ⟨g_27, h⟩ := gdn h
              refine v_ldiv hC dX8_mean_80 g_27 ?_
              refine v_goto (tgt := 89) hC dX8_mean_81 (by decide) ?_
              exact v_lret hC rfl dX8_mean_89 h
          · replace h := ifn c_24 h
            refine v_ldc2 (v := (-4611686018427387904)) hC lc219_X8_mean dX8_mean_68 ?_
            exact v_lret hC rfl dX8_mean_71 h
        · replace h := ifn c_11 h
          refine v_ldc2 (v := (-4611686018427387904)) hC lc219_X8_mean dX8_mean_26 ?_
          exact v_lret hC rfl dX8_mean_29 h
theorem k_X8_mean {adK adV : Nat → Nat} {tb : Nat} (l : Launch) {G : WD}  {r0 : Int64} {τ : HS} {p1 : Int32} {p2 : Int32} {σ : HS}  (hG : GX G xY) (hO0 : Ob G xY 0 7) (h : c_X8_mean p1 p2 σ = some (r0, τ)) : MJ (xE adK adV tb) l yX8_mean wsX8_mean rmX8_mean G xY [.ref (G.2.2.1 0), .int p1, .int p2] σ r0 τ :=
  MJ.of RX8 (by decide) rfl rfl (Nat.le_of_ble_eq_true rfl) rfl rfl (fun p e s m below meth c hC => w_X8_mean  hG hO0 hC h)
abbrev rmX8_worst : Room := { frames := 6, cells := 0, slots := 0, locals := 138 }
def c_X8_worst (p1 : Int32) (p2 : Int32) (σ : HS) : Option (Int32 × HS) := (bi2 (c_X8_planAt p1 σ) (fun r3 s2 => (mo r3 (some ((-2), s2)) (fun j5 => (if p2 < 0 then (some ((-2), s2)) else (if p2 ≤ 1 then (bi2 (c_X8_hasTooManyLayings s2) (fun r10 s9 => (if r10 = 0 then (bi2 (c_X8_tallyOf j5 s9) (fun r14 s13 => (if p2 = 0 then (mr r14 (fun j19 => (some ((gI s13 j19 4), s13)))) else (mr r14 (fun j17 => (some ((gI s13 j17 5), s13))))))) else (some ((-3), s9))))) else (some ((-2), s2))))))))
set_option maxHeartbeats 4000000 in
set_option maxRecDepth 100000 in
theorem w_X8_worst {adK adV : Nat → Nat} {tb : Nat} {p : Program} {l : Launch} {e : Env} {s : State} {m : MethodId} {args : Array Value} {below : List Frame} {meth : Method} {c : Code} {A : Nat → Prop} {G : WD}  {r0 : Int32} {τ : HS} {p1 : Int32} {p2 : Int32} {σ : HS}  (hG : GX G xY) (hO0 : Ob G xY 0 7) (hC : Cx (xE adK adV tb) G.1 G.2.1 xY cX8_worst 5 (some .int) RX8 wsX8_worst p s m args meth c A) (h : c_X8_worst p1 p2 σ = some (r0, τ)) : V p l e rmX8_worst s m args below meth c 5 A G xY 0 0 (MQ below (QI G xY A r0 τ) args s 0 0 A) σ 0 [(0, .ref (G.2.2.1 0)), (1, .int p1), (2, .int p2)] [] := by
  rw [c_X8_worst] at h
  refine v_aload_n hC dX8_worst_0 0 rfl ?_
  refine v_iload_n hC dX8_worst_1 1 rfl ?_
  obtain ⟨r3, s2, hc_1, h⟩ := bd2 h
  refine v_callVR hC xE_ok (n := 1) (As := [.int p1]) (k_X8_planAt l hG (hO0) hc_1) (cwV 1 hC.1.2.2.2.2 gX8_worst_X8_planAt rfl rfl rfl (by decide +kernel) ⟨(Nat.le_of_ble_eq_true rfl), (Nat.le_of_ble_eq_true rfl)⟩) hO0 (by decide) rfl rfl rfl (Nat.le_of_ble_eq_true rfl) ⟨Nat.zero_le _, Nat.zero_le _⟩ dX8_worst_2 rfl ?_
  refine v_wt (fun hv_4 => ?_)
  refine v_astore_nR (L' := [(0, .ref (G.2.2.1 0)), (2, .int p2), (3, rv G.2.2.1 r3)]) hC dX8_worst_5 (by decide) [1, 3, 0] rfl ?_
  refine v_aload_nR hC dX8_worst_6 2 rfl ?_
  cases r3 with
  | none =>
    replace h := mo_n h
    refine v_ifnull_t (tgt := 19) hC dX8_worst_7 (by decide) ?_
    refine v_bipush (v := (-2)) hC dX8_worst_19 (by decide) ?_
    exact v_iret hC rfl dX8_worst_21 h
  | some j5 =>
    replace h := mo_s h
    refine v_ifnull_f hC dX8_worst_7 ?_
    refine V.sub (L' := [(0, .ref (G.2.2.1 0)), (2, .int p2), (3, .ref (G.2.2.1 j5))]) [0, 1, 2] rfl ?_
    refine v_iload_n hC dX8_worst_10 1 rfl ?_
    refine v_if_lt (tgt := 19) hC dX8_worst_11 (by decide) (fun c_6 => ?_) (fun c_6 => ?_)
    · replace h := ift c_6 h
      refine v_bipush (v := (-2)) hC dX8_worst_19 (by decide) ?_
      exact v_iret hC rfl dX8_worst_21 h
    · replace h := ifn c_6 h
      refine v_iload_n hC dX8_worst_14 1 rfl ?_
      refine v_iconst (v := 1) hC dX8_worst_15 (by decide) ?_
      refine v_icmp_le (tgt := 22) hC dX8_worst_16 (by decide) (fun c_7 => ?_) (fun c_7 => ?_)
      · replace h := ift c_7 h
        refine v_aload_n hC dX8_worst_22 0 rfl ?_
        obtain ⟨r10, s9, hc_8, h⟩ := bd2 h
        refine v_callVI hC xE_ok (n := 0) (As := []) (k_X8_hasTooManyLayings l hG (hO0) hc_8) (cwV 0 hC.1.2.2.2.2 gX8_worst_X8_hasTooManyLayings rfl rfl rfl (by decide +kernel) ⟨(Nat.le_of_ble_eq_true rfl), (Nat.le_of_ble_eq_true rfl)⟩) hO0 (by decide) rfl rfl rfl (Nat.le_of_ble_eq_true rfl) ⟨Nat.zero_le _, Nat.zero_le _⟩ dX8_worst_23 rfl ?_
        refine v_if_eq (tgt := 32) hC dX8_worst_26 (by decide) (fun c_11 => ?_) (fun c_11 => ?_)
        · replace h := ift c_11 h
          refine v_aload_n hC dX8_worst_32 0 rfl ?_
          refine v_aload_n hC dX8_worst_33 2 rfl ?_
          obtain ⟨r14, s13, hc_12, h⟩ := bd2 h
          refine v_callVR hC xE_ok (n := 1) (As := [.ref (G.2.2.1 j5)]) (k_X8_tallyOf l hG (hO0) ((show Ob G xY j5 1 from (rok_planAt hG (hO0) hv_4 hc_1) j5 rfl)) hc_12) (cwV 1 hC.1.2.2.2.2 gX8_worst_X8_tallyOf rfl rfl rfl (by decide +kernel) ⟨(Nat.le_of_ble_eq_true rfl), (Nat.le_of_ble_eq_true rfl)⟩) hO0 (by decide) rfl rfl rfl (Nat.le_of_ble_eq_true rfl) ⟨Nat.zero_le _, Nat.zero_le _⟩ dX8_worst_34 rfl ?_
          refine v_wt (fun hv_15 => ?_)
          refine v_astoreR (L' := [(2, .int p2), (4, rv G.2.2.1 r14)]) hC dX8_worst_37 (by decide) [2, 0] rfl ?_
          refine v_iload_n hC dX8_worst_39 0 rfl ?_
          refine v_if_ne (tgt := 51) hC dX8_worst_40 (by decide) (fun c_16 => ?_) (fun c_16 => ?_)
          · replace h := ifn c_16 h
            refine v_aloadR hC dX8_worst_51 1 rfl ?_
            obtain ⟨j17, hj18, h⟩ := mrd h
            rw [hj18]
            rw [rv_s]
            refine v_getN (C := RX4) (T := TX4) (N := 7) (ci := 4) (k := 5) (v := .int (gI s13 j17 5)) hC (show Ob G xY j17 4 from (rok_tallyOf hG (hO0) ((show Ob G xY j5 1 from (rok_planAt hG (hO0) hv_4 hc_1) j5 rfl)) hv_15 hc_12) j17 hj18) hi_X8_worst_X4 rfl (by decide) (by decide) rfl rfl (xE_nf_X8_250 hC.2.2.2.2.2) dX8_worst_53 rfl ?_
            exact v_iret hC rfl dX8_worst_56 h
          · replace h := ift c_16 h
            refine v_aloadR hC dX8_worst_43 1 rfl ?_
            obtain ⟨j19, hj20, h⟩ := mrd h
            rw [hj20]
            rw [rv_s]
            refine v_getN (C := RX4) (T := TX4) (N := 7) (ci := 4) (k := 4) (v := .int (gI s13 j19 4)) hC (show Ob G xY j19 4 from (rok_tallyOf hG (hO0) ((show Ob G xY j5 1 from (rok_planAt hG (hO0) hv_4 hc_1) j5 rfl)) hv_15 hc_12) j19 hj20) hi_X8_worst_X4 rfl (by decide) (by decide) rfl rfl (xE_nf_X8_247 hC.2.2.2.2.2) dX8_worst_45 rfl ?_
            refine v_goto (tgt := 56) hC dX8_worst_48 (by decide) ?_
            exact v_iret hC rfl dX8_worst_56 h
        · replace h := ifn c_11 h
          refine v_bipush (v := (-3)) hC dX8_worst_29 (by decide) ?_
          exact v_iret hC rfl dX8_worst_31 h
      · replace h := ifn c_7 h
        refine v_bipush (v := (-2)) hC dX8_worst_19 (by decide) ?_
        exact v_iret hC rfl dX8_worst_21 h
theorem k_X8_worst {adK adV : Nat → Nat} {tb : Nat} (l : Launch) {G : WD}  {r0 : Int32} {τ : HS} {p1 : Int32} {p2 : Int32} {σ : HS}  (hG : GX G xY) (hO0 : Ob G xY 0 7) (h : c_X8_worst p1 p2 σ = some (r0, τ)) : MI (xE adK adV tb) l yX8_worst wsX8_worst rmX8_worst G xY [.ref (G.2.2.1 0), .int p1, .int p2] σ r0 τ :=
  MI.of RX8 (by decide) rfl rfl (Nat.le_of_ble_eq_true rfl) rfl rfl (fun p e s m below meth c hC => w_X8_worst  hG hO0 hC h)
abbrev rmX8_drawsThatWin : Room := { frames := 5, cells := 0, slots := 0, locals := 112 }
def c_X8_drawsThatWin_44 (k9 : Int32 → Int32 → HS → Option (Int32 × HS)) (i1 : Nat) (x2 : Int32) (x3 : Int32) (σ : HS) : Option (Int32 × HS) := (k9 x2 (x3 + 1) σ)
set_option maxHeartbeats 4000000 in
set_option maxRecDepth 100000 in
theorem w_X8_drawsThatWin_44 {adK adV : Nat → Nat} {tb : Nat} {p : Program} {l : Launch} {e : Env} {s : State} {m : MethodId} {args : Array Value} {below : List Frame} {meth : Method} {c : Code} {A : Nat → Prop} {G : WD}  {r0 : Int32} {τ : HS} {i1 : Nat} {k9 : Int32 → Int32 → HS → Option (Int32 × HS)} {x2 : Int32} {x3 : Int32} {σ : HS}  (hG : GX G xY) (hO0 : Ob G xY 0 7) (hO1 : Ob G xY i1 0) (hC : Cx (xE adK adV tb) G.1 G.2.1 xY cX8_drawsThatWin 4 (some .int) RX8 wsX8_drawsThatWin p s m args meth c A) (hk9 : ∀ (x2 : Int32) (x3 : Int32) (σ : HS), k9 x2 x3 σ = some (r0, τ) → V p l e rmX8_drawsThatWin s m args below meth c 4 A G xY 0 0 (MQ below (QI G xY A r0 τ) args s 0 0 A) σ 9 [(0, .ref (G.2.2.1 0)), (1, .ref (G.2.2.1 i1)), (2, .int x2), (3, .int x3)] []) (h : c_X8_drawsThatWin_44 k9 i1 x2 x3 σ = some (r0, τ)) : V p l e rmX8_drawsThatWin s m args below meth c 4 A G xY 0 0 (MQ below (QI G xY A r0 τ) args s 0 0 A) σ 44 [(0, .ref (G.2.2.1 0)), (1, .ref (G.2.2.1 i1)), (2, .int x2), (3, .int x3)] [] := by
  rw [c_X8_drawsThatWin_44] at h
  refine v_iinc (v := (x3 + 1)) (L' := [(0, .ref (G.2.2.1 0)), (1, .ref (G.2.2.1 i1)), (2, .int x2), (3, .int (x3 + 1))]) hC dX8_drawsThatWin_44 3 rfl rfl (by decide) [1, 2, 3, 0] rfl ?_
  refine v_goto (tgt := 9) hC dX8_drawsThatWin_47 (by decide) ?_
  exact hk9 _ _ _ h
def c_X8_drawsThatWin_9 : Nat → Nat → Int32 → Int32 → HS → Option (Int32 × HS)
  | 0, _, _, _, _ => none
  | n + 1, i1, x2, x3, σ => (if (gI σ i1 1) ≤ x3 then (some (x2, σ)) else (if 12 ≤ x3 then (some (x2, σ)) else (if inb x3 12 = true then (mr (gR σ 8 (ix x3)) (fun j7 => (bi2 (c_X8_goHome j7 i1 σ) (fun r11 s10 => (if r11 = (gI s10 i1 1) then (c_X8_drawsThatWin_44 (fun z0 z1 z2 => c_X8_drawsThatWin_9 n i1 z0 z1 z2) i1 (x2 + 1) x3 s10) else (c_X8_drawsThatWin_44 (fun z0 z1 z2 => c_X8_drawsThatWin_9 n i1 z0 z1 z2) i1 x2 x3 s10)))))) else none)))
set_option maxHeartbeats 4000000 in
set_option maxRecDepth 100000 in
theorem w_X8_drawsThatWin_9 {adK adV : Nat → Nat} {tb : Nat} {p : Program} {l : Launch} {e : Env} {s : State} {m : MethodId} {args : Array Value} {below : List Frame} {meth : Method} {c : Code} {A : Nat → Prop} {G : WD}  {r0 : Int32} {τ : HS} {i1 : Nat}  (hG : GX G xY) (hO0 : Ob G xY 0 7) (hO1 : Ob G xY i1 0) (hC : Cx (xE adK adV tb) G.1 G.2.1 xY cX8_drawsThatWin 4 (some .int) RX8 wsX8_drawsThatWin p s m args meth c A)  : ∀ (n : Nat) (x2 : Int32) (x3 : Int32) (σ : HS), c_X8_drawsThatWin_9 n i1 x2 x3 σ = some (r0, τ) → V p l e rmX8_drawsThatWin s m args below meth c 4 A G xY 0 0 (MQ below (QI G xY A r0 τ) args s 0 0 A) σ 9 [(0, .ref (G.2.2.1 0)), (1, .ref (G.2.2.1 i1)), (2, .int x2), (3, .int x3)] [] := by
  intro n
  induction n with
  | zero => intro x2 x3 σ h; exact nof h
  | succ n ih =>
    intro x2 x3 σ h
    rw [c_X8_drawsThatWin_9] at h
    refine v_iload_n hC dX8_drawsThatWin_9 3 rfl ?_
    refine v_aload_n hC dX8_drawsThatWin_10 1 rfl ?_
    refine v_getN (C := RX0) (T := TX0) (N := 5) (ci := 0) (k := 1) (v := .int (gI σ i1 1)) hC hO1 hi_X8_drawsThatWin_X0 rfl (by decide) (by decide) rfl rfl (xE_nf_X8_124 hC.2.2.2.2.2) dX8_drawsThatWin_11 rfl ?_
    refine v_icmp_ge (tgt := 50) hC dX8_drawsThatWin_14 (by decide) (fun c_3 => ?_) (fun c_3 => ?_)
    · replace h := ift c_3 h
      refine v_iload_n hC dX8_drawsThatWin_50 2 rfl ?_
      exact v_iret hC rfl dX8_drawsThatWin_51 h
    · replace h := ifn c_3 h
      refine v_iload_n hC dX8_drawsThatWin_17 3 rfl ?_
      refine v_bipush (v := 12) hC dX8_drawsThatWin_18 (by decide) ?_
      refine v_icmp_ge (tgt := 50) hC dX8_drawsThatWin_20 (by decide) (fun c_4 => ?_) (fun c_4 => ?_)
      · replace h := ift c_4 h
        refine v_iload_n hC dX8_drawsThatWin_50 2 rfl ?_
        exact v_iret hC rfl dX8_drawsThatWin_51 h
      · replace h := ifn c_4 h
        refine v_aload_n hC dX8_drawsThatWin_23 0 rfl ?_
        refine v_aload_n hC dX8_drawsThatWin_24 0 rfl ?_
        refine v_get (C := RX8) (T := TX8) (N := 20) (ci := 7) (k := 9) (v := .ref (G.2.2.1 8)) hC hO0 hi_X8_drawsThatWin_X8 rfl (by decide) (by decide) rfl rfl fl39_X8_drawsThatWin dX8_drawsThatWin_25 rfl ?_
        refine v_iload_n hC dX8_drawsThatWin_28 3 rfl ?_
        obtain ⟨g_5, h⟩ := gd h
        refine v_wt (fun hw_6 => ?_)
        refine v_aald hC (obX_7_9 hG hO0).1 (by decide) (obX_7_9 hG hO0).2 (t0 := 2) rfl g_5 dX8_drawsThatWin_29 ?_
        refine v_aload_n hC dX8_drawsThatWin_30 1 rfl ?_
        obtain ⟨j7, hj8, h⟩ := mrd h
        rw [hj8]
        rw [rv_s]
        obtain ⟨r11, s10, hc_9, h⟩ := bd2 h
        refine v_callVI hC xE_ok (n := 2) (As := [.ref (G.2.2.1 j7), .ref (G.2.2.1 i1)]) (k_X8_goHome l hG (hO0) ((show Ob G xY j7 1 from (fun j hj => wt_ob hw_6 (obX_7_9 hG hO0).1 hj) j7 hj8)) (hO1) hc_9) (cwV 2 hC.1.2.2.2.2 gX8_drawsThatWin_X8_goHome rfl rfl rfl (by decide +kernel) ⟨(Nat.le_of_ble_eq_true rfl), (Nat.le_of_ble_eq_true rfl)⟩) hO0 (by decide) rfl rfl rfl (Nat.le_of_ble_eq_true rfl) ⟨Nat.zero_le _, Nat.zero_le _⟩ dX8_drawsThatWin_31 rfl ?_
        refine v_aload_n hC dX8_drawsThatWin_34 1 rfl ?_
        refine v_getN (C := RX0) (T := TX0) (N := 5) (ci := 0) (k := 1) (v := .int (gI s10 i1 1)) hC hO1 hi_X8_drawsThatWin_X0 rfl (by decide) (by decide) rfl rfl (xE_nf_X8_124 hC.2.2.2.2.2) dX8_drawsThatWin_35 rfl ?_
        refine v_icmp_ne (tgt := 44) hC dX8_drawsThatWin_38 (by decide) (fun c_12 => ?_) (fun c_12 => ?_)
        · replace h := ifn c_12 h
          exact w_X8_drawsThatWin_44 hG (hO0) (hO1) hC (fun _ _ _ h => ih _ _ _ h) h
        · replace h := ift c_12 h
          refine v_iinc (v := (x2 + 1)) (L' := [(0, .ref (G.2.2.1 0)), (1, .ref (G.2.2.1 i1)), (2, .int (x2 + 1)), (3, .int x3)]) hC dX8_drawsThatWin_41 2 rfl rfl (by decide) [1, 2, 0, 3] rfl ?_
          exact w_X8_drawsThatWin_44 hG (hO0) (hO1) hC (fun _ _ _ h => ih _ _ _ h) h
def c_X8_drawsThatWin (i1 : Nat) (σ : HS) : Option (Int32 × HS) := (bi1 (c_X8_noteLaying i1 σ) (fun s2 => (c_X8_drawsThatWin_9 FU i1 0 0 s2)))
set_option maxHeartbeats 4000000 in
set_option maxRecDepth 100000 in
theorem w_X8_drawsThatWin {adK adV : Nat → Nat} {tb : Nat} {p : Program} {l : Launch} {e : Env} {s : State} {m : MethodId} {args : Array Value} {below : List Frame} {meth : Method} {c : Code} {A : Nat → Prop} {G : WD}  {r0 : Int32} {τ : HS} {i1 : Nat} {σ : HS}  (hG : GX G xY) (hO0 : Ob G xY 0 7) (hO1 : Ob G xY i1 0) (hC : Cx (xE adK adV tb) G.1 G.2.1 xY cX8_drawsThatWin 4 (some .int) RX8 wsX8_drawsThatWin p s m args meth c A) (h : c_X8_drawsThatWin i1 σ = some (r0, τ)) : V p l e rmX8_drawsThatWin s m args below meth c 4 A G xY 0 0 (MQ below (QI G xY A r0 τ) args s 0 0 A) σ 0 [(0, .ref (G.2.2.1 0)), (1, .ref (G.2.2.1 i1))] [] := by
  rw [c_X8_drawsThatWin] at h
  refine v_aload_n hC dX8_drawsThatWin_0 0 rfl ?_
  refine v_aload_n hC dX8_drawsThatWin_1 1 rfl ?_
  obtain ⟨s2, hc_1, h⟩ := bd1 h
  refine v_callVV hC xE_ok (n := 1) (As := [.ref (G.2.2.1 i1)]) (k_X8_noteLaying l hG (hO0) (hO1) hc_1) (cwV 1 hC.1.2.2.2.2 gX8_drawsThatWin_X8_noteLaying rfl rfl rfl (by decide +kernel) ⟨(Nat.le_of_ble_eq_true rfl), (Nat.le_of_ble_eq_true rfl)⟩) hO0 (by decide) rfl rfl rfl (Nat.le_of_ble_eq_true rfl) ⟨Nat.zero_le _, Nat.zero_le _⟩ dX8_drawsThatWin_2 rfl ?_
  refine v_iconst (v := 0) hC dX8_drawsThatWin_5 (by decide) ?_
  refine v_istore_n (L' := [(0, .ref (G.2.2.1 0)), (1, .ref (G.2.2.1 i1)), (2, .int 0)]) hC dX8_drawsThatWin_6 (by decide) [1, 2, 0] rfl ?_
  refine v_iconst (v := 0) hC dX8_drawsThatWin_7 (by decide) ?_
  refine v_istore_n (L' := [(0, .ref (G.2.2.1 0)), (1, .ref (G.2.2.1 i1)), (2, .int 0), (3, .int 0)]) hC dX8_drawsThatWin_8 (by decide) [1, 2, 3, 0] rfl ?_
  exact w_X8_drawsThatWin_9 hG (hO0) (hO1) hC FU _ _ _ h
theorem k_X8_drawsThatWin {adK adV : Nat → Nat} {tb : Nat} (l : Launch) {G : WD}  {r0 : Int32} {τ : HS} {i1 : Nat} {σ : HS}  (hG : GX G xY) (hO0 : Ob G xY 0 7) (hO1 : Ob G xY i1 0) (h : c_X8_drawsThatWin i1 σ = some (r0, τ)) : MI (xE adK adV tb) l yX8_drawsThatWin wsX8_drawsThatWin rmX8_drawsThatWin G xY [.ref (G.2.2.1 0), .ref (G.2.2.1 i1)] σ r0 τ :=
  MI.of RX8 (by decide) rfl rfl (Nat.le_of_ble_eq_true rfl) rfl rfl (fun p e s m below meth c hC => w_X8_drawsThatWin  hG hO0 hO1 hC h)
abbrev rmX8_leastDraws : Room := { frames := 6, cells := 0, slots := 0, locals := 135 }
def c_X8_leastDraws_74 : Nat → Int64 → Int64 → HS → Option (Int32 × HS)
  | 0, _, _, _ => none
  | n + 1, x1, x3, σ => (if 0 ≤ (lg_cmp x3 x1) then (some ((gI σ 18 4), σ)) else (if (gI σ 18 4) = 0 then (some ((gI σ 18 4), σ)) else (bi2 (c_X8_drawsThatWin 5 σ) (fun r16 s15 => (bi1 (c_X4_add 18 5 r16 s15) (fun s18 => (bi1 (c_X0_advance 5 s18) (fun s20 => (c_X8_leastDraws_74 n x1 (x3 + 1) s20)))))))))
set_option maxHeartbeats 4000000 in
set_option maxRecDepth 100000 in
theorem w_X8_leastDraws_74 {adK adV : Nat → Nat} {tb : Nat} {p : Program} {l : Launch} {e : Env} {s : State} {m : MethodId} {args : Array Value} {below : List Frame} {meth : Method} {c : Code} {A : Nat → Prop} {G : WD}  {r0 : Int32} {τ : HS}   (hG : GX G xY) (hO0 : Ob G xY 0 7) (hC : Cx (xE adK adV tb) G.1 G.2.1 xY cX8_leastDraws 5 (some .int) RX8 wsX8_leastDraws p s m args meth c A)  : ∀ (n : Nat) (x1 : Int64) (x3 : Int64) (σ : HS), c_X8_leastDraws_74 n x1 x3 σ = some (r0, τ) → V p l e rmX8_leastDraws s m args below meth c 5 A G xY 0 0 (MQ below (QI G xY A r0 τ) args s 0 0 A) σ 74 [(0, .ref (G.2.2.1 0)), (1, .long x1), (3, .long x3)] [] := by
  intro n
  induction n with
  | zero => intro x1 x3 σ h; exact nof h
  | succ n ih =>
    intro x1 x3 σ h
    rw [c_X8_leastDraws_74] at h
    refine v_lload_n hC dX8_leastDraws_74 2 rfl ?_
    refine v_lload_n hC dX8_leastDraws_75 1 rfl ?_
    refine v_lcmp hC dX8_leastDraws_76 ?_
    refine v_if_ge (tgt := 123) hC dX8_leastDraws_77 (by decide) (fun c_12 => ?_) (fun c_12 => ?_)
    · replace h := ift c_12 h
      refine v_aload_n hC dX8_leastDraws_123 0 rfl ?_
      refine v_get (C := RX8) (T := TX8) (N := 20) (ci := 7) (k := 19) (v := .ref (G.2.2.1 18)) hC hO0 hi_X8_leastDraws_X8 rfl (by decide) (by decide) rfl rfl fl92_X8_leastDraws dX8_leastDraws_124 rfl ?_
      refine v_getN (C := RX4) (T := TX4) (N := 7) (ci := 4) (k := 4) (v := .int (gI σ 18 4)) hC (obX_7_19 hG hO0) hi_X8_leastDraws_X4 rfl (by decide) (by decide) rfl rfl (xE_nf_X8_247 hC.2.2.2.2.2) dX8_leastDraws_127 rfl ?_
      exact v_iret hC rfl dX8_leastDraws_130 h
    · replace h := ifn c_12 h
      refine v_aload_n hC dX8_leastDraws_80 0 rfl ?_
      refine v_get (C := RX8) (T := TX8) (N := 20) (ci := 7) (k := 19) (v := .ref (G.2.2.1 18)) hC hO0 hi_X8_leastDraws_X8 rfl (by decide) (by decide) rfl rfl fl92_X8_leastDraws dX8_leastDraws_81 rfl ?_
      refine v_getN (C := RX4) (T := TX4) (N := 7) (ci := 4) (k := 4) (v := .int (gI σ 18 4)) hC (obX_7_19 hG hO0) hi_X8_leastDraws_X4 rfl (by decide) (by decide) rfl rfl (xE_nf_X8_247 hC.2.2.2.2.2) dX8_leastDraws_84 rfl ?_
      refine v_if_eq (tgt := 123) hC dX8_leastDraws_87 (by decide) (fun c_13 => ?_) (fun c_13 => ?_)
      · replace h := ift c_13 h
        refine v_aload_n hC dX8_leastDraws_123 0 rfl ?_
        refine v_get (C := RX8) (T := TX8) (N := 20) (ci := 7) (k := 19) (v := .ref (G.2.2.1 18)) hC hO0 hi_X8_leastDraws_X8 rfl (by decide) (by decide) rfl rfl fl92_X8_leastDraws dX8_leastDraws_124 rfl ?_
        refine v_getN (C := RX4) (T := TX4) (N := 7) (ci := 4) (k := 4) (v := .int (gI σ 18 4)) hC (obX_7_19 hG hO0) hi_X8_leastDraws_X4 rfl (by decide) (by decide) rfl rfl (xE_nf_X8_247 hC.2.2.2.2.2) dX8_leastDraws_127 rfl ?_
        exact v_iret hC rfl dX8_leastDraws_130 h
      · replace h := ifn c_13 h
        refine v_aload_n hC dX8_leastDraws_90 0 rfl ?_
        refine v_get (C := RX8) (T := TX8) (N := 20) (ci := 7) (k := 19) (v := .ref (G.2.2.1 18)) hC hO0 hi_X8_leastDraws_X8 rfl (by decide) (by decide) rfl rfl fl92_X8_leastDraws dX8_leastDraws_91 rfl ?_
        refine v_aload_n hC dX8_leastDraws_94 0 rfl ?_
        refine v_aload_n hC dX8_leastDraws_95 0 rfl ?_
        refine v_get (C := RX8) (T := TX8) (N := 20) (ci := 7) (k := 16) (v := .ref (G.2.2.1 5)) hC hO0 hi_X8_leastDraws_X8 rfl (by decide) (by decide) rfl rfl fl78_X8_leastDraws dX8_leastDraws_96 rfl ?_
        obtain ⟨r16, s15, hc_14, h⟩ := bd2 h
        refine v_callVI hC xE_ok (n := 1) (As := [.ref (G.2.2.1 5)]) (k_X8_drawsThatWin l hG (hO0) ((obX_7_16 hG hO0)) hc_14) (cwV 1 hC.1.2.2.2.2 gX8_leastDraws_X8_drawsThatWin rfl rfl rfl (by decide +kernel) ⟨(Nat.le_of_ble_eq_true rfl), (Nat.le_of_ble_eq_true rfl)⟩) hO0 (by decide) rfl rfl rfl (Nat.le_of_ble_eq_true rfl) ⟨Nat.zero_le _, Nat.zero_le _⟩ dX8_leastDraws_99 rfl ?_
        refine v_aload_n hC dX8_leastDraws_102 0 rfl ?_
        refine v_get (C := RX8) (T := TX8) (N := 20) (ci := 7) (k := 16) (v := .ref (G.2.2.1 5)) hC hO0 hi_X8_leastDraws_X8 rfl (by decide) (by decide) rfl rfl fl78_X8_leastDraws dX8_leastDraws_103 rfl ?_
        obtain ⟨s18, hc_17, h⟩ := bd1 h
        refine v_callVV hC xE_ok (n := 2) (As := [.int r16, .ref (G.2.2.1 5)]) (k_X4_add l hG ((obX_7_19 hG hO0)) ((obX_7_16 hG hO0)) hc_17) (cwV 2 hC.1.2.2.2.2 gX8_leastDraws_X4_add rfl rfl rfl (by decide +kernel) ⟨(Nat.le_of_ble_eq_true rfl), (Nat.le_of_ble_eq_true rfl)⟩) (obX_7_19 hG hO0) (by decide) rfl rfl rfl (Nat.le_of_ble_eq_true rfl) ⟨Nat.zero_le _, Nat.zero_le _⟩ dX8_leastDraws_106 rfl ?_
        refine v_aload_n hC dX8_leastDraws_109 0 rfl ?_
        refine v_get (C := RX8) (T := TX8) (N := 20) (ci := 7) (k := 16) (v := .ref (G.2.2.1 5)) hC hO0 hi_X8_leastDraws_X8 rfl (by decide) (by decide) rfl rfl fl78_X8_leastDraws dX8_leastDraws_110 rfl ?_
        obtain ⟨s20, hc_19, h⟩ := bd1 h
        refine v_callVV hC xE_ok (n := 0) (As := []) (k_X0_advance l hG ((obX_7_16 hG hO0)) hc_19) (cwV 0 hC.1.2.2.2.2 gX8_leastDraws_X0_advance rfl rfl rfl (by decide +kernel) ⟨(Nat.le_of_ble_eq_true rfl), (Nat.le_of_ble_eq_true rfl)⟩) (obX_7_16 hG hO0) (by decide) rfl rfl rfl (Nat.le_of_ble_eq_true rfl) ⟨Nat.zero_le _, Nat.zero_le _⟩ dX8_leastDraws_113 rfl ?_
        refine v_lload_n hC dX8_leastDraws_116 2 rfl ?_
        refine v_lconst (v := 1) hC dX8_leastDraws_117 (by decide) ?_
        refine v_ladd hC dX8_leastDraws_118 ?_
        refine v_lstore_n (L' := [(0, .ref (G.2.2.1 0)), (1, .long x1), (3, .long (x3 + 1))]) hC dX8_leastDraws_119 (by decide) [1, 2, 0] rfl ?_
        refine v_goto (tgt := 74) hC dX8_leastDraws_120 (by decide) ?_
        exact ih _ _ _ h
def c_X8_leastDraws (σ : HS) : Option (Int32 × HS) := (bi2 (c_X4_isOf 18 (gI σ 1 1) (gI σ 0 1) (gI σ 0 2) σ) (fun r3 s2 => (if r3 = 0 then (bi1 (c_X4_begin 18 (gI s2 1 1) (gI s2 0 1) (gI s2 0 2) s2) (fun s6 => (bi1 (c_X0_layOwn 5 (gI s6 1 1) s6) (fun s8 => (bi2 (c_X8_factorial (gI s8 1 1) s8) (fun r11 s10 => (c_X8_leastDraws_74 FU r11 0 s10))))))) else (some ((gI s2 18 4), s2)))))
set_option maxHeartbeats 4000000 in
set_option maxRecDepth 100000 in
theorem w_X8_leastDraws {adK adV : Nat → Nat} {tb : Nat} {p : Program} {l : Launch} {e : Env} {s : State} {m : MethodId} {args : Array Value} {below : List Frame} {meth : Method} {c : Code} {A : Nat → Prop} {G : WD}  {r0 : Int32} {τ : HS}  {σ : HS}  (hG : GX G xY) (hO0 : Ob G xY 0 7) (hC : Cx (xE adK adV tb) G.1 G.2.1 xY cX8_leastDraws 5 (some .int) RX8 wsX8_leastDraws p s m args meth c A) (h : c_X8_leastDraws  σ = some (r0, τ)) : V p l e rmX8_leastDraws s m args below meth c 5 A G xY 0 0 (MQ below (QI G xY A r0 τ) args s 0 0 A) σ 0 [(0, .ref (G.2.2.1 0))] [] := by
  rw [c_X8_leastDraws] at h
  refine v_aload_n hC dX8_leastDraws_0 0 rfl ?_
  refine v_get (C := RX8) (T := TX8) (N := 20) (ci := 7) (k := 19) (v := .ref (G.2.2.1 18)) hC hO0 hi_X8_leastDraws_X8 rfl (by decide) (by decide) rfl rfl fl92_X8_leastDraws dX8_leastDraws_1 rfl ?_
  refine v_aload_n hC dX8_leastDraws_4 0 rfl ?_
  refine v_get (C := RX8) (T := TX8) (N := 20) (ci := 7) (k := 0) (v := .ref (G.2.2.1 1)) hC hO0 hi_X8_leastDraws_X8 rfl (by decide) (by decide) rfl rfl fl10_X8_leastDraws dX8_leastDraws_5 rfl ?_
  refine v_getN (C := RX0) (T := TX0) (N := 5) (ci := 0) (k := 1) (v := .int (gI σ 1 1)) hC (obX_7_0 hG hO0) hi_X8_leastDraws_X0 rfl (by decide) (by decide) rfl rfl (xE_nf_X8_124 hC.2.2.2.2.2) dX8_leastDraws_8 rfl ?_
  refine v_aload_n hC dX8_leastDraws_11 0 rfl ?_
  refine v_get (C := RX8) (T := TX8) (N := 20) (ci := 7) (k := 1) (v := .int (gI σ 0 1)) hC hO0 hi_X8_leastDraws_X8 rfl (by decide) (by decide) rfl rfl fl16_X8_leastDraws dX8_leastDraws_12 rfl ?_
  refine v_aload_n hC dX8_leastDraws_15 0 rfl ?_
  refine v_get (C := RX8) (T := TX8) (N := 20) (ci := 7) (k := 2) (v := .int (gI σ 0 2)) hC hO0 hi_X8_leastDraws_X8 rfl (by decide) (by decide) rfl rfl fl20_X8_leastDraws dX8_leastDraws_16 rfl ?_
  obtain ⟨r3, s2, hc_1, h⟩ := bd2 h
  refine v_callVI hC xE_ok (n := 3) (As := [.int (gI σ 1 1), .int (gI σ 0 1), .int (gI σ 0 2)]) (k_X4_isOf l hG ((obX_7_19 hG hO0)) hc_1) (cwV 3 hC.1.2.2.2.2 gX8_leastDraws_X4_isOf rfl rfl rfl (by decide +kernel) ⟨(Nat.le_of_ble_eq_true rfl), (Nat.le_of_ble_eq_true rfl)⟩) (obX_7_19 hG hO0) (by decide) rfl rfl rfl (Nat.le_of_ble_eq_true rfl) ⟨Nat.zero_le _, Nat.zero_le _⟩ dX8_leastDraws_19 rfl ?_
  refine v_if_ne (tgt := 123) hC dX8_leastDraws_22 (by decide) (fun c_4 => ?_) (fun c_4 => ?_)
  · replace h := ifn c_4 h
    refine v_aload_n hC dX8_leastDraws_123 0 rfl ?_
    refine v_get (C := RX8) (T := TX8) (N := 20) (ci := 7) (k := 19) (v := .ref (G.2.2.1 18)) hC hO0 hi_X8_leastDraws_X8 rfl (by decide) (by decide) rfl rfl fl92_X8_leastDraws dX8_leastDraws_124 rfl ?_
    refine v_getN (C := RX4) (T := TX4) (N := 7) (ci := 4) (k := 4) (v := .int (gI s2 18 4)) hC (obX_7_19 hG hO0) hi_X8_leastDraws_X4 rfl (by decide) (by decide) rfl rfl (xE_nf_X8_247 hC.2.2.2.2.2) dX8_leastDraws_127 rfl ?_
    exact v_iret hC rfl dX8_leastDraws_130 h
  · replace h := ift c_4 h
    refine v_aload_n hC dX8_leastDraws_25 0 rfl ?_
    refine v_get (C := RX8) (T := TX8) (N := 20) (ci := 7) (k := 19) (v := .ref (G.2.2.1 18)) hC hO0 hi_X8_leastDraws_X8 rfl (by decide) (by decide) rfl rfl fl92_X8_leastDraws dX8_leastDraws_26 rfl ?_
    refine v_aload_n hC dX8_leastDraws_29 0 rfl ?_
    refine v_get (C := RX8) (T := TX8) (N := 20) (ci := 7) (k := 0) (v := .ref (G.2.2.1 1)) hC hO0 hi_X8_leastDraws_X8 rfl (by decide) (by decide) rfl rfl fl10_X8_leastDraws dX8_leastDraws_30 rfl ?_
    refine v_getN (C := RX0) (T := TX0) (N := 5) (ci := 0) (k := 1) (v := .int (gI s2 1 1)) hC (obX_7_0 hG hO0) hi_X8_leastDraws_X0 rfl (by decide) (by decide) rfl rfl (xE_nf_X8_124 hC.2.2.2.2.2) dX8_leastDraws_33 rfl ?_
    refine v_aload_n hC dX8_leastDraws_36 0 rfl ?_
    refine v_get (C := RX8) (T := TX8) (N := 20) (ci := 7) (k := 1) (v := .int (gI s2 0 1)) hC hO0 hi_X8_leastDraws_X8 rfl (by decide) (by decide) rfl rfl fl16_X8_leastDraws dX8_leastDraws_37 rfl ?_
    refine v_aload_n hC dX8_leastDraws_40 0 rfl ?_
    refine v_get (C := RX8) (T := TX8) (N := 20) (ci := 7) (k := 2) (v := .int (gI s2 0 2)) hC hO0 hi_X8_leastDraws_X8 rfl (by decide) (by decide) rfl rfl fl20_X8_leastDraws dX8_leastDraws_41 rfl ?_
    obtain ⟨s6, hc_5, h⟩ := bd1 h
    refine v_callVV hC xE_ok (n := 3) (As := [.int (gI s2 1 1), .int (gI s2 0 1), .int (gI s2 0 2)]) (k_X4_begin l hG ((obX_7_19 hG hO0)) hc_5) (cwV 3 hC.1.2.2.2.2 gX8_leastDraws_X4_begin rfl rfl rfl (by decide +kernel) ⟨(Nat.le_of_ble_eq_true rfl), (Nat.le_of_ble_eq_true rfl)⟩) (obX_7_19 hG hO0) (by decide) rfl rfl rfl (Nat.le_of_ble_eq_true rfl) ⟨Nat.zero_le _, Nat.zero_le _⟩ dX8_leastDraws_44 rfl ?_
    refine v_aload_n hC dX8_leastDraws_47 0 rfl ?_
    refine v_get (C := RX8) (T := TX8) (N := 20) (ci := 7) (k := 16) (v := .ref (G.2.2.1 5)) hC hO0 hi_X8_leastDraws_X8 rfl (by decide) (by decide) rfl rfl fl78_X8_leastDraws dX8_leastDraws_48 rfl ?_
    refine v_aload_n hC dX8_leastDraws_51 0 rfl ?_
    refine v_get (C := RX8) (T := TX8) (N := 20) (ci := 7) (k := 0) (v := .ref (G.2.2.1 1)) hC hO0 hi_X8_leastDraws_X8 rfl (by decide) (by decide) rfl rfl fl10_X8_leastDraws dX8_leastDraws_52 rfl ?_
    refine v_getN (C := RX0) (T := TX0) (N := 5) (ci := 0) (k := 1) (v := .int (gI s6 1 1)) hC (obX_7_0 hG hO0) hi_X8_leastDraws_X0 rfl (by decide) (by decide) rfl rfl (xE_nf_X8_124 hC.2.2.2.2.2) dX8_leastDraws_55 rfl ?_
    obtain ⟨s8, hc_7, h⟩ := bd1 h
    refine v_callVV hC xE_ok (n := 1) (As := [.int (gI s6 1 1)]) (k_X0_layOwn l hG ((obX_7_16 hG hO0)) hc_7) (cwV 1 hC.1.2.2.2.2 gX8_leastDraws_X0_layOwn rfl rfl rfl (by decide +kernel) ⟨(Nat.le_of_ble_eq_true rfl), (Nat.le_of_ble_eq_true rfl)⟩) (obX_7_16 hG hO0) (by decide) rfl rfl rfl (Nat.le_of_ble_eq_true rfl) ⟨Nat.zero_le _, Nat.zero_le _⟩ dX8_leastDraws_58 rfl ?_
    refine v_aload_n hC dX8_leastDraws_61 0 rfl ?_
    refine v_get (C := RX8) (T := TX8) (N := 20) (ci := 7) (k := 0) (v := .ref (G.2.2.1 1)) hC hO0 hi_X8_leastDraws_X8 rfl (by decide) (by decide) rfl rfl fl10_X8_leastDraws dX8_leastDraws_62 rfl ?_
    refine v_getN (C := RX0) (T := TX0) (N := 5) (ci := 0) (k := 1) (v := .int (gI s8 1 1)) hC (obX_7_0 hG hO0) hi_X8_leastDraws_X0 rfl (by decide) (by decide) rfl rfl (xE_nf_X8_124 hC.2.2.2.2.2) dX8_leastDraws_65 rfl ?_
    obtain ⟨r11, s10, hc_9, h⟩ := bd2 h
    refine v_callSJ hC xE_ok (n := 1) (As := [.int (gI s8 1 1)]) (k_X8_factorial l hG hc_9) (va_cwS 1 hC.1.2.2.2.2 gX8_leastDraws_X8_factorial rfl rfl rfl (by decide +kernel) ⟨(Nat.le_of_ble_eq_true rfl), (Nat.le_of_ble_eq_true rfl)⟩) rfl (Nat.le_of_ble_eq_true rfl) ⟨Nat.zero_le _, Nat.zero_le _⟩ dX8_leastDraws_68 rfl ?_
    refine v_lstore_n (L' := [(0, .ref (G.2.2.1 0)), (1, .long r11)]) hC dX8_leastDraws_71 (by decide) [1, 0] rfl ?_
    refine v_lconst (v := 0) hC dX8_leastDraws_72 (by decide) ?_
    refine v_lstore_n (L' := [(0, .ref (G.2.2.1 0)), (1, .long r11), (3, .long 0)]) hC dX8_leastDraws_73 (by decide) [1, 2, 0] rfl ?_
    exact w_X8_leastDraws_74 hG (hO0) hC FU _ _ _ h
theorem k_X8_leastDraws {adK adV : Nat → Nat} {tb : Nat} (l : Launch) {G : WD}  {r0 : Int32} {τ : HS}  {σ : HS}  (hG : GX G xY) (hO0 : Ob G xY 0 7) (h : c_X8_leastDraws  σ = some (r0, τ)) : MI (xE adK adV tb) l yX8_leastDraws wsX8_leastDraws rmX8_leastDraws G xY [.ref (G.2.2.1 0)] σ r0 τ :=
  MI.of RX8 (by decide) rfl rfl (Nat.le_of_ble_eq_true rfl) rfl rfl (fun p e s m below meth c hC => w_X8_leastDraws  hG hO0 hC h)
abbrev rmX8_draws : Room := { frames := 7, cells := 0, slots := 0, locals := 159 }
def c_X8_draws (p1 : Int32) (σ : HS) : Option (Int32 × HS) := (if p1 < 0 then (some ((-2), σ)) else (if p1 ≤ 1 then (if p1 = 0 then (bi2 (c_X8_drawsThatWin 1 σ) (fun r13 s12 => (some (r13, s12)))) else (bi2 (c_X8_hasTooManyLayings σ) (fun r6 s5 => (if r6 = 0 then (bi2 (c_X8_leastDraws s5) (fun r10 s9 => (some (r10, s9)))) else (some ((-3), s5)))))) else (some ((-2), σ))))
set_option maxHeartbeats 4000000 in
set_option maxRecDepth 100000 in
theorem w_X8_draws {adK adV : Nat → Nat} {tb : Nat} {p : Program} {l : Launch} {e : Env} {s : State} {m : MethodId} {args : Array Value} {below : List Frame} {meth : Method} {c : Code} {A : Nat → Prop} {G : WD}  {r0 : Int32} {τ : HS} {p1 : Int32} {σ : HS}  (hG : GX G xY) (hO0 : Ob G xY 0 7) (hC : Cx (xE adK adV tb) G.1 G.2.1 xY cX8_draws 2 (some .int) RX8 wsX8_draws p s m args meth c A) (h : c_X8_draws p1 σ = some (r0, τ)) : V p l e rmX8_draws s m args below meth c 2 A G xY 0 0 (MQ below (QI G xY A r0 τ) args s 0 0 A) σ 0 [(0, .ref (G.2.2.1 0)), (1, .int p1)] [] := by
  rw [c_X8_draws] at h
  refine v_iload_n hC dX8_draws_0 1 rfl ?_
  refine v_if_lt (tgt := 9) hC dX8_draws_1 (by decide) (fun c_1 => ?_) (fun c_1 => ?_)
  · replace h := ift c_1 h
    refine v_bipush (v := (-2)) hC dX8_draws_9 (by decide) ?_
    exact v_iret hC rfl dX8_draws_11 h
  · replace h := ifn c_1 h
    refine v_iload_n hC dX8_draws_4 1 rfl ?_
    refine v_iconst (v := 1) hC dX8_draws_5 (by decide) ?_
    refine v_icmp_le (tgt := 12) hC dX8_draws_6 (by decide) (fun c_2 => ?_) (fun c_2 => ?_)
    · replace h := ift c_2 h
      refine v_iload_n hC dX8_draws_12 1 rfl ?_
      refine v_if_ne (tgt := 25) hC dX8_draws_13 (by decide) (fun c_3 => ?_) (fun c_3 => ?_)
      · replace h := ifn c_3 h
        refine v_aload_n hC dX8_draws_25 0 rfl ?_
        obtain ⟨r6, s5, hc_4, h⟩ := bd2 h
        refine v_callVI hC xE_ok (n := 0) (As := []) (k_X8_hasTooManyLayings l hG (hO0) hc_4) (cwV 0 hC.1.2.2.2.2 gX8_draws_X8_hasTooManyLayings rfl rfl rfl (by decide +kernel) ⟨(Nat.le_of_ble_eq_true rfl), (Nat.le_of_ble_eq_true rfl)⟩) hO0 (by decide) rfl rfl rfl (Nat.le_of_ble_eq_true rfl) ⟨Nat.zero_le _, Nat.zero_le _⟩ dX8_draws_26 rfl ?_
        refine v_if_eq (tgt := 37) hC dX8_draws_29 (by decide) (fun c_7 => ?_) (fun c_7 => ?_)
        · replace h := ift c_7 h
          refine v_aload_n hC dX8_draws_37 0 rfl ?_
          obtain ⟨r10, s9, hc_8, h⟩ := bd2 h
          refine v_callVI hC xE_ok (n := 0) (As := []) (k_X8_leastDraws l hG (hO0) hc_8) (cwV 0 hC.1.2.2.2.2 gX8_draws_X8_leastDraws rfl rfl rfl (by decide +kernel) ⟨(Nat.le_of_ble_eq_true rfl), (Nat.le_of_ble_eq_true rfl)⟩) hO0 (by decide) rfl rfl rfl (Nat.le_of_ble_eq_true rfl) ⟨Nat.zero_le _, Nat.zero_le _⟩ dX8_draws_38 rfl ?_
          exact v_iret hC rfl dX8_draws_41 h
        · replace h := ifn c_7 h
          refine v_bipush (v := (-3)) hC dX8_draws_32 (by decide) ?_
          refine v_goto (tgt := 41) hC dX8_draws_34 (by decide) ?_
          exact v_iret hC rfl dX8_draws_41 h
      · replace h := ift c_3 h
        refine v_aload_n hC dX8_draws_16 0 rfl ?_
        refine v_aload_n hC dX8_draws_17 0 rfl ?_
        refine v_get (C := RX8) (T := TX8) (N := 20) (ci := 7) (k := 0) (v := .ref (G.2.2.1 1)) hC hO0 hi_X8_draws_X8 rfl (by decide) (by decide) rfl rfl fl10_X8_draws dX8_draws_18 rfl ?_
        obtain ⟨r13, s12, hc_11, h⟩ := bd2 h
        refine v_callVI hC xE_ok (n := 1) (As := [.ref (G.2.2.1 1)]) (k_X8_drawsThatWin l hG (hO0) ((obX_7_0 hG hO0)) hc_11) (cwV 1 hC.1.2.2.2.2 gX8_draws_X8_drawsThatWin rfl rfl rfl (by decide +kernel) ⟨(Nat.le_of_ble_eq_true rfl), (Nat.le_of_ble_eq_true rfl)⟩) hO0 (by decide) rfl rfl rfl (Nat.le_of_ble_eq_true rfl) ⟨Nat.zero_le _, Nat.zero_le _⟩ dX8_draws_21 rfl ?_
        exact v_iret hC rfl dX8_draws_24 h
    · replace h := ifn c_2 h
      refine v_bipush (v := (-2)) hC dX8_draws_9 (by decide) ?_
      exact v_iret hC rfl dX8_draws_11 h
theorem k_X8_draws {adK adV : Nat → Nat} {tb : Nat} (l : Launch) {G : WD}  {r0 : Int32} {τ : HS} {p1 : Int32} {σ : HS}  (hG : GX G xY) (hO0 : Ob G xY 0 7) (h : c_X8_draws p1 σ = some (r0, τ)) : MI (xE adK adV tb) l yX8_draws wsX8_draws rmX8_draws G xY [.ref (G.2.2.1 0), .int p1] σ r0 τ :=
  MI.of RX8 (by decide) rfl rfl (Nat.le_of_ble_eq_true rfl) rfl rfl (fun p e s m below meth c hC => w_X8_draws  hG hO0 hC h)
abbrev rmX8_costs : Room := { frames := 6, cells := 0, slots := 0, locals := 138 }
def c_X8_costs (p1 : Int32) (σ : HS) : Option (Int64 × HS) := (bi2 (c_X8_planAt p1 σ) (fun r3 s2 => (mo r3 (some ((-4611686018427387904), s2)) (fun j5 => (bi2 (c_X8_hasTooManyLayings s2) (fun r8 s7 => (if r8 = 0 then (bi2 (c_X8_tallyOf 9 s7) (fun r12 s11 => (mr r12 (fun j14 => (bi2 (c_X8_tallyOf j5 s11) (fun r18 s17 => (mr r18 (fun j20 => (some (((gJ s11 j14 6) - (gJ s17 j20 6)), s17)))))))))) else (some ((-4611686018427387904), s7)))))))))
set_option maxHeartbeats 4000000 in
set_option maxRecDepth 100000 in
theorem w_X8_costs {adK adV : Nat → Nat} {tb : Nat} {p : Program} {l : Launch} {e : Env} {s : State} {m : MethodId} {args : Array Value} {below : List Frame} {meth : Method} {c : Code} {A : Nat → Prop} {G : WD}  {r0 : Int64} {τ : HS} {p1 : Int32} {σ : HS}  (hG : GX G xY) (hO0 : Ob G xY 0 7) (hC : Cx (xE adK adV tb) G.1 G.2.1 xY cX8_costs 3 (some .long) RX8 wsX8_costs p s m args meth c A) (h : c_X8_costs p1 σ = some (r0, τ)) : V p l e rmX8_costs s m args below meth c 3 A G xY 0 0 (MQ below (QJ G xY A r0 τ) args s 0 0 A) σ 0 [(0, .ref (G.2.2.1 0)), (1, .int p1)] [] := by
  rw [c_X8_costs] at h
  refine v_aload_n hC dX8_costs_0 0 rfl ?_
  refine v_iload_n hC dX8_costs_1 1 rfl ?_
  obtain ⟨r3, s2, hc_1, h⟩ := bd2 h
  refine v_callVR hC xE_ok (n := 1) (As := [.int p1]) (k_X8_planAt l hG (hO0) hc_1) (cwV 1 hC.1.2.2.2.2 gX8_costs_X8_planAt rfl rfl rfl (by decide +kernel) ⟨(Nat.le_of_ble_eq_true rfl), (Nat.le_of_ble_eq_true rfl)⟩) hO0 (by decide) rfl rfl rfl (Nat.le_of_ble_eq_true rfl) ⟨Nat.zero_le _, Nat.zero_le _⟩ dX8_costs_2 rfl ?_
  refine v_wt (fun hv_4 => ?_)
  refine v_astore_nR (L' := [(0, .ref (G.2.2.1 0)), (2, rv G.2.2.1 r3)]) hC dX8_costs_5 (by decide) [1, 0] rfl ?_
  refine v_aload_nR hC dX8_costs_6 1 rfl ?_
  cases r3 with
  | none =>
    replace h := mo_n h
    refine v_ifnull_t (tgt := 17) hC dX8_costs_7 (by decide) ?_
    refine v_ldc2 (v := (-4611686018427387904)) hC lc219_X8_costs dX8_costs_17 ?_
    exact v_lret hC rfl dX8_costs_20 h
  | some j5 =>
    replace h := mo_s h
    refine v_ifnull_f hC dX8_costs_7 ?_
    refine V.sub (L' := [(0, .ref (G.2.2.1 0)), (2, .ref (G.2.2.1 j5))]) [0, 1] rfl ?_
    refine v_aload_n hC dX8_costs_10 0 rfl ?_
    obtain ⟨r8, s7, hc_6, h⟩ := bd2 h
    refine v_callVI hC xE_ok (n := 0) (As := []) (k_X8_hasTooManyLayings l hG (hO0) hc_6) (cwV 0 hC.1.2.2.2.2 gX8_costs_X8_hasTooManyLayings rfl rfl rfl (by decide +kernel) ⟨(Nat.le_of_ble_eq_true rfl), (Nat.le_of_ble_eq_true rfl)⟩) hO0 (by decide) rfl rfl rfl (Nat.le_of_ble_eq_true rfl) ⟨Nat.zero_le _, Nat.zero_le _⟩ dX8_costs_11 rfl ?_
    refine v_if_eq (tgt := 21) hC dX8_costs_14 (by decide) (fun c_9 => ?_) (fun c_9 => ?_)
    · replace h := ift c_9 h
      refine v_aload_n hC dX8_costs_21 0 rfl ?_
      refine v_aload_n hC dX8_costs_22 0 rfl ?_
      refine v_get (C := RX8) (T := TX8) (N := 20) (ci := 7) (k := 10) (v := .ref (G.2.2.1 9)) hC hO0 hi_X8_costs_X8 rfl (by decide) (by decide) rfl rfl fl45_X8_costs dX8_costs_23 rfl ?_
      obtain ⟨r12, s11, hc_10, h⟩ := bd2 h
      refine v_callVR hC xE_ok (n := 1) (As := [.ref (G.2.2.1 9)]) (k_X8_tallyOf l hG (hO0) ((obX_7_10 hG hO0)) hc_10) (cwV 1 hC.1.2.2.2.2 gX8_costs_X8_tallyOf rfl rfl rfl (by decide +kernel) ⟨(Nat.le_of_ble_eq_true rfl), (Nat.le_of_ble_eq_true rfl)⟩) hO0 (by decide) rfl rfl rfl (Nat.le_of_ble_eq_true rfl) ⟨Nat.zero_le _, Nat.zero_le _⟩ dX8_costs_26 rfl ?_
      refine v_wt (fun hv_13 => ?_)
      obtain ⟨j14, hj15, h⟩ := mrd h
      rw [hj15]
      rw [rv_s]
      refine v_getN (C := RX4) (T := TX4) (N := 7) (ci := 4) (k := 6) (v := .long (gJ s11 j14 6)) hC (show Ob G xY j14 4 from (rok_tallyOf hG (hO0) ((obX_7_10 hG hO0)) hv_13 hc_10) j14 hj15) hi_X8_costs_X4 rfl (by decide) (by decide) rfl rfl (xE_nf_X8_239 hC.2.2.2.2.2) dX8_costs_29 rfl ?_
      refine v_aload_n hC dX8_costs_32 0 rfl ?_
      refine v_aload_n hC dX8_costs_33 1 rfl ?_
      obtain ⟨r18, s17, hc_16, h⟩ := bd2 h
      refine v_callVR hC xE_ok (n := 1) (As := [.ref (G.2.2.1 j5)]) (k_X8_tallyOf l hG (hO0) ((show Ob G xY j5 1 from (rok_planAt hG (hO0) hv_4 hc_1) j5 rfl)) hc_16) (cwV 1 hC.1.2.2.2.2 gX8_costs_X8_tallyOf rfl rfl rfl (by decide +kernel) ⟨(Nat.le_of_ble_eq_true rfl), (Nat.le_of_ble_eq_true rfl)⟩) hO0 (by decide) rfl rfl rfl (Nat.le_of_ble_eq_true rfl) ⟨Nat.zero_le _, Nat.zero_le _⟩ dX8_costs_34 rfl ?_
      refine v_wt (fun hv_19 => ?_)
      obtain ⟨j20, hj21, h⟩ := mrd h
      rw [hj21]
      rw [rv_s]
      refine v_getN (C := RX4) (T := TX4) (N := 7) (ci := 4) (k := 6) (v := .long (gJ s17 j20 6)) hC (show Ob G xY j20 4 from (rok_tallyOf hG (hO0) ((show Ob G xY j5 1 from (rok_planAt hG (hO0) hv_4 hc_1) j5 rfl)) hv_19 hc_16) j20 hj21) hi_X8_costs_X4 rfl (by decide) (by decide) rfl rfl (xE_nf_X8_239 hC.2.2.2.2.2) dX8_costs_37 rfl ?_
      refine v_lsub hC dX8_costs_40 ?_
      exact v_lret hC rfl dX8_costs_41 h
    · replace h := ifn c_9 h
      refine v_ldc2 (v := (-4611686018427387904)) hC lc219_X8_costs dX8_costs_17 ?_
      exact v_lret hC rfl dX8_costs_20 h
theorem k_X8_costs {adK adV : Nat → Nat} {tb : Nat} (l : Launch) {G : WD}  {r0 : Int64} {τ : HS} {p1 : Int32} {σ : HS}  (hG : GX G xY) (hO0 : Ob G xY 0 7) (h : c_X8_costs p1 σ = some (r0, τ)) : MJ (xE adK adV tb) l yX8_costs wsX8_costs rmX8_costs G xY [.ref (G.2.2.1 0), .int p1] σ r0 τ :=
  MJ.of RX8 (by decide) rfl rfl (Nat.le_of_ble_eq_true rfl) rfl rfl (fun p e s m below meth c hC => w_X8_costs  hG hO0 hC h)
abbrev rmX8_help : Room := { frames := 3, cells := 0, slots := 0, locals := 81 }
def c_X8_help_119 (k43 : Int32 → Int32 → Int32 → Int32 → HS → Option (Int32 × HS)) (k61 : Int32 → Int32 → Int32 → Int32 → Int32 → HS → Option (Int32 × HS)) (x1 : Int32) (x2 : Int32) (x3 : Int32) (x4 : Int32) (x5 : Int32) (σ : HS) : Option (Int32 × HS) := (bi1 (c_X0_change 5 x4 x5 σ) (fun s20 => (k61 x1 x2 x3 x4 (x5 + 1) s20)))
set_option maxHeartbeats 4000000 in
set_option maxRecDepth 100000 in
theorem w_X8_help_119 {adK adV : Nat → Nat} {tb : Nat} {p : Program} {l : Launch} {e : Env} {s : State} {m : MethodId} {args : Array Value} {below : List Frame} {meth : Method} {c : Code} {A : Nat → Prop} {G : WD}  {r0 : Int32} {τ : HS}  {k43 : Int32 → Int32 → Int32 → Int32 → HS → Option (Int32 × HS)} {k61 : Int32 → Int32 → Int32 → Int32 → Int32 → HS → Option (Int32 × HS)} {x1 : Int32} {x2 : Int32} {x3 : Int32} {x4 : Int32} {x5 : Int32} {σ : HS}  (hG : GX G xY) (hO0 : Ob G xY 0 7) (hC : Cx (xE adK adV tb) G.1 G.2.1 xY cX8_help 6 (some .int) RX8 wsX8_help p s m args meth c A) (hk43 : ∀ (x1 : Int32) (x2 : Int32) (x3 : Int32) (x4 : Int32) (σ : HS), k43 x1 x2 x3 x4 σ = some (r0, τ) → V p l e rmX8_help s m args below meth c 6 A G xY 0 0 (MQ below (QI G xY A r0 τ) args s 0 0 A) σ 43 [(0, .ref (G.2.2.1 0)), (1, .int x1), (2, .int x2), (3, .int x3), (4, .int x4)] []) (hk61 : ∀ (x1 : Int32) (x2 : Int32) (x3 : Int32) (x4 : Int32) (x5 : Int32) (σ : HS), k61 x1 x2 x3 x4 x5 σ = some (r0, τ) → V p l e rmX8_help s m args below meth c 6 A G xY 0 0 (MQ below (QI G xY A r0 τ) args s 0 0 A) σ 61 [(0, .ref (G.2.2.1 0)), (1, .int x1), (2, .int x2), (3, .int x3), (4, .int x4), (5, .int x5)] []) (h : c_X8_help_119 k43 k61 x1 x2 x3 x4 x5 σ = some (r0, τ)) : V p l e rmX8_help s m args below meth c 6 A G xY 0 0 (MQ below (QI G xY A r0 τ) args s 0 0 A) σ 119 [(0, .ref (G.2.2.1 0)), (1, .int x1), (2, .int x2), (3, .int x3), (4, .int x4), (5, .int x5)] [] := by
  rw [c_X8_help_119] at h
  refine v_aload_n hC dX8_help_119 0 rfl ?_
  refine v_get (C := RX8) (T := TX8) (N := 20) (ci := 7) (k := 16) (v := .ref (G.2.2.1 5)) hC hO0 hi_X8_help_X8 rfl (by decide) (by decide) rfl rfl fl78_X8_help dX8_help_120 rfl ?_
  refine v_iload hC dX8_help_123 4 rfl ?_
  refine v_iload hC dX8_help_125 5 rfl ?_
  obtain ⟨s20, hc_19, h⟩ := bd1 h
  refine v_callVV hC xE_ok (n := 2) (As := [.int x4, .int x5]) (k_X0_change l hG ((obX_7_16 hG hO0)) hc_19) (cwV 2 hC.1.2.2.2.2 gX8_help_X0_change rfl rfl rfl (by decide +kernel) ⟨(Nat.le_of_ble_eq_true rfl), (Nat.le_of_ble_eq_true rfl)⟩) (obX_7_16 hG hO0) (by decide) rfl rfl rfl (Nat.le_of_ble_eq_true rfl) ⟨Nat.zero_le _, Nat.zero_le _⟩ dX8_help_127 rfl ?_
  refine v_iinc (v := (x5 + 1)) (L' := [(0, .ref (G.2.2.1 0)), (1, .int x1), (2, .int x2), (3, .int x3), (4, .int x4), (5, .int (x5 + 1))]) hC dX8_help_130 5 rfl rfl (by decide) [1, 2, 3, 4, 5, 0] rfl ?_
  refine v_goto (tgt := 61) hC dX8_help_133 (by decide) ?_
  exact hk61 _ _ _ _ _ _ h
def c_X8_help_136 (k43 : Int32 → Int32 → Int32 → Int32 → HS → Option (Int32 × HS)) (x1 : Int32) (x2 : Int32) (x3 : Int32) (x4 : Int32) (σ : HS) : Option (Int32 × HS) := (k43 x1 x2 x3 (x4 + 1) σ)
set_option maxHeartbeats 4000000 in
set_option maxRecDepth 100000 in
theorem w_X8_help_136 {adK adV : Nat → Nat} {tb : Nat} {p : Program} {l : Launch} {e : Env} {s : State} {m : MethodId} {args : Array Value} {below : List Frame} {meth : Method} {c : Code} {A : Nat → Prop} {G : WD}  {r0 : Int32} {τ : HS}  {k43 : Int32 → Int32 → Int32 → Int32 → HS → Option (Int32 × HS)} {x1 : Int32} {x2 : Int32} {x3 : Int32} {x4 : Int32} {σ : HS}  (hG : GX G xY) (hO0 : Ob G xY 0 7) (hC : Cx (xE adK adV tb) G.1 G.2.1 xY cX8_help 6 (some .int) RX8 wsX8_help p s m args meth c A) (hk43 : ∀ (x1 : Int32) (x2 : Int32) (x3 : Int32) (x4 : Int32) (σ : HS), k43 x1 x2 x3 x4 σ = some (r0, τ) → V p l e rmX8_help s m args below meth c 6 A G xY 0 0 (MQ below (QI G xY A r0 τ) args s 0 0 A) σ 43 [(0, .ref (G.2.2.1 0)), (1, .int x1), (2, .int x2), (3, .int x3), (4, .int x4)] []) (h : c_X8_help_136 k43 x1 x2 x3 x4 σ = some (r0, τ)) : V p l e rmX8_help s m args below meth c 6 A G xY 0 0 (MQ below (QI G xY A r0 τ) args s 0 0 A) σ 136 [(0, .ref (G.2.2.1 0)), (1, .int x1), (2, .int x2), (3, .int x3), (4, .int x4)] [] := by
  rw [c_X8_help_136] at h
  refine v_iinc (v := (x4 + 1)) (L' := [(0, .ref (G.2.2.1 0)), (1, .int x1), (2, .int x2), (3, .int x3), (4, .int (x4 + 1))]) hC dX8_help_136 4 rfl rfl (by decide) [1, 2, 3, 4, 0] rfl ?_
  refine v_goto (tgt := 43) hC dX8_help_139 (by decide) ?_
  exact hk43 _ _ _ _ _ h
def c_X8_help_61 (k43 : Int32 → Int32 → Int32 → Int32 → HS → Option (Int32 × HS)) : Nat → Int32 → Int32 → Int32 → Int32 → Int32 → HS → Option (Int32 × HS)
  | 0, _, _, _, _, _, _ => none
  | n + 1, x1, x2, x3, x4, x5, σ => (if (gI σ 1 1) ≤ x5 then (c_X8_help_136 k43 x1 x2 x3 x4 σ) else (bi1 (c_X0_change 5 x4 x5 σ) (fun s15 => (bi1 (c_X0_survey 5 s15) (fun s17 => (if x2 ≤ (gI s17 5 3) then (c_X8_help_119 k43 (fun z0 z1 z2 z3 z4 z5 => c_X8_help_61 k43 n z0 z1 z2 z3 z4 z5) x1 x2 x3 x4 x5 s17) else (c_X8_help_119 k43 (fun z0 z1 z2 z3 z4 z5 => c_X8_help_61 k43 n z0 z1 z2 z3 z4 z5) x1 (gI s17 5 3) ((12 * x4) + x5) x4 x5 s17)))))))
set_option maxHeartbeats 4000000 in
set_option maxRecDepth 100000 in
theorem w_X8_help_61 {adK adV : Nat → Nat} {tb : Nat} {p : Program} {l : Launch} {e : Env} {s : State} {m : MethodId} {args : Array Value} {below : List Frame} {meth : Method} {c : Code} {A : Nat → Prop} {G : WD}  {r0 : Int32} {τ : HS}  {k43 : Int32 → Int32 → Int32 → Int32 → HS → Option (Int32 × HS)}  (hG : GX G xY) (hO0 : Ob G xY 0 7) (hC : Cx (xE adK adV tb) G.1 G.2.1 xY cX8_help 6 (some .int) RX8 wsX8_help p s m args meth c A) (hk43 : ∀ (x1 : Int32) (x2 : Int32) (x3 : Int32) (x4 : Int32) (σ : HS), k43 x1 x2 x3 x4 σ = some (r0, τ) → V p l e rmX8_help s m args below meth c 6 A G xY 0 0 (MQ below (QI G xY A r0 τ) args s 0 0 A) σ 43 [(0, .ref (G.2.2.1 0)), (1, .int x1), (2, .int x2), (3, .int x3), (4, .int x4)] []) : ∀ (n : Nat) (x1 : Int32) (x2 : Int32) (x3 : Int32) (x4 : Int32) (x5 : Int32) (σ : HS), c_X8_help_61 k43 n x1 x2 x3 x4 x5 σ = some (r0, τ) → V p l e rmX8_help s m args below meth c 6 A G xY 0 0 (MQ below (QI G xY A r0 τ) args s 0 0 A) σ 61 [(0, .ref (G.2.2.1 0)), (1, .int x1), (2, .int x2), (3, .int x3), (4, .int x4), (5, .int x5)] [] := by
  intro n
  induction n with
  | zero => intro x1 x2 x3 x4 x5 σ h; exact nof h
  | succ n ih =>
    intro x1 x2 x3 x4 x5 σ h
    rw [c_X8_help_61] at h
    refine v_iload hC dX8_help_61 5 rfl ?_
    refine v_aload_n hC dX8_help_63 0 rfl ?_
    refine v_get (C := RX8) (T := TX8) (N := 20) (ci := 7) (k := 0) (v := .ref (G.2.2.1 1)) hC hO0 hi_X8_help_X8 rfl (by decide) (by decide) rfl rfl fl10_X8_help dX8_help_64 rfl ?_
    refine v_getN (C := RX0) (T := TX0) (N := 5) (ci := 0) (k := 1) (v := .int (gI σ 1 1)) hC (obX_7_0 hG hO0) hi_X8_help_X0 rfl (by decide) (by decide) rfl rfl (xE_nf_X8_124 hC.2.2.2.2.2) dX8_help_67 rfl ?_
    refine v_icmp_ge (tgt := 136) hC dX8_help_70 (by decide) (fun c_13 => ?_) (fun c_13 => ?_)
    · replace h := ift c_13 h
      refine V.sub (L' := [(0, .ref (G.2.2.1 0)), (1, .int x1), (2, .int x2), (3, .int x3), (4, .int x4)]) [0, 1, 2, 3, 4] rfl ?_
      exact w_X8_help_136 hG (hO0) hC hk43 h
    · replace h := ifn c_13 h
      refine v_aload_n hC dX8_help_73 0 rfl ?_
      refine v_get (C := RX8) (T := TX8) (N := 20) (ci := 7) (k := 16) (v := .ref (G.2.2.1 5)) hC hO0 hi_X8_help_X8 rfl (by decide) (by decide) rfl rfl fl78_X8_help dX8_help_74 rfl ?_
      refine v_iload hC dX8_help_77 4 rfl ?_
      refine v_iload hC dX8_help_79 5 rfl ?_
      obtain ⟨s15, hc_14, h⟩ := bd1 h
      refine v_callVV hC xE_ok (n := 2) (As := [.int x4, .int x5]) (k_X0_change l hG ((obX_7_16 hG hO0)) hc_14) (cwV 2 hC.1.2.2.2.2 gX8_help_X0_change rfl rfl rfl (by decide +kernel) ⟨(Nat.le_of_ble_eq_true rfl), (Nat.le_of_ble_eq_true rfl)⟩) (obX_7_16 hG hO0) (by decide) rfl rfl rfl (Nat.le_of_ble_eq_true rfl) ⟨Nat.zero_le _, Nat.zero_le _⟩ dX8_help_81 rfl ?_
      refine v_aload_n hC dX8_help_84 0 rfl ?_
      refine v_get (C := RX8) (T := TX8) (N := 20) (ci := 7) (k := 16) (v := .ref (G.2.2.1 5)) hC hO0 hi_X8_help_X8 rfl (by decide) (by decide) rfl rfl fl78_X8_help dX8_help_85 rfl ?_
      obtain ⟨s17, hc_16, h⟩ := bd1 h
      refine v_callVV hC xE_ok (n := 0) (As := []) (k_X0_survey l hG ((obX_7_16 hG hO0)) hc_16) (cwV 0 hC.1.2.2.2.2 gX8_help_X0_survey rfl rfl rfl (by decide +kernel) ⟨(Nat.le_of_ble_eq_true rfl), (Nat.le_of_ble_eq_true rfl)⟩) (obX_7_16 hG hO0) (by decide) rfl rfl rfl (Nat.le_of_ble_eq_true rfl) ⟨Nat.zero_le _, Nat.zero_le _⟩ dX8_help_88 rfl ?_
      refine v_aload_n hC dX8_help_91 0 rfl ?_
      refine v_get (C := RX8) (T := TX8) (N := 20) (ci := 7) (k := 16) (v := .ref (G.2.2.1 5)) hC hO0 hi_X8_help_X8 rfl (by decide) (by decide) rfl rfl fl78_X8_help dX8_help_92 rfl ?_
      refine v_getN (C := RX0) (T := TX0) (N := 5) (ci := 0) (k := 3) (v := .int (gI s17 5 3)) hC (obX_7_16 hG hO0) hi_X8_help_X0 rfl (by decide) (by decide) rfl rfl (xE_nf_X8_164 hC.2.2.2.2.2) dX8_help_95 rfl ?_
      refine v_iload_n hC dX8_help_98 2 rfl ?_
      refine v_icmp_ge (tgt := 119) hC dX8_help_99 (by decide) (fun c_18 => ?_) (fun c_18 => ?_)
      · replace h := ift c_18 h
        exact w_X8_help_119 hG (hO0) hC hk43 (fun _ _ _ _ _ _ h => ih _ _ _ _ _ _ h) h
      · replace h := ifn c_18 h
        refine v_aload_n hC dX8_help_102 0 rfl ?_
        refine v_get (C := RX8) (T := TX8) (N := 20) (ci := 7) (k := 16) (v := .ref (G.2.2.1 5)) hC hO0 hi_X8_help_X8 rfl (by decide) (by decide) rfl rfl fl78_X8_help dX8_help_103 rfl ?_
        refine v_getN (C := RX0) (T := TX0) (N := 5) (ci := 0) (k := 3) (v := .int (gI s17 5 3)) hC (obX_7_16 hG hO0) hi_X8_help_X0 rfl (by decide) (by decide) rfl rfl (xE_nf_X8_164 hC.2.2.2.2.2) dX8_help_106 rfl ?_
        refine v_istore_n (L' := [(0, .ref (G.2.2.1 0)), (1, .int x1), (2, .int (gI s17 5 3)), (4, .int x4), (5, .int x5)]) hC dX8_help_109 (by decide) [1, 2, 0, 4, 5] rfl ?_
        refine v_bipush (v := 12) hC dX8_help_110 (by decide) ?_
        refine v_iload hC dX8_help_112 3 rfl ?_
        refine v_imul hC dX8_help_114 ?_
        refine v_iload hC dX8_help_115 4 rfl ?_
        refine v_iadd hC dX8_help_117 ?_
        refine v_istore_n (L' := [(0, .ref (G.2.2.1 0)), (1, .int x1), (2, .int (gI s17 5 3)), (3, .int ((12 * x4) + x5)), (4, .int x4), (5, .int x5)]) hC dX8_help_118 (by decide) [1, 2, 3, 0, 4, 5] rfl ?_
        exact w_X8_help_119 hG (hO0) hC hk43 (fun _ _ _ _ _ _ h => ih _ _ _ _ _ _ h) h
def c_X8_help_142 (x1 : Int32) (x2 : Int32) (x3 : Int32) (σ : HS) : Option (Int32 × HS) := (if x3 = (-1) then (some (x3, σ)) else (if x1 = 0 then (some (x3, σ)) else (if x1 = 1 then (some (x2, σ)) else (if (gI σ 0 1) < x2 then (some (0, σ)) else (if (gI σ 1 4) = 0 then (some (1, σ)) else (some (0, σ)))))))
set_option maxHeartbeats 4000000 in
set_option maxRecDepth 100000 in
theorem w_X8_help_142 {adK adV : Nat → Nat} {tb : Nat} {p : Program} {l : Launch} {e : Env} {s : State} {m : MethodId} {args : Array Value} {below : List Frame} {meth : Method} {c : Code} {A : Nat → Prop} {G : WD}  {r0 : Int32} {τ : HS}  {x1 : Int32} {x2 : Int32} {x3 : Int32} {σ : HS}  (hG : GX G xY) (hO0 : Ob G xY 0 7) (hC : Cx (xE adK adV tb) G.1 G.2.1 xY cX8_help 6 (some .int) RX8 wsX8_help p s m args meth c A)  (h : c_X8_help_142 x1 x2 x3 σ = some (r0, τ)) : V p l e rmX8_help s m args below meth c 6 A G xY 0 0 (MQ below (QI G xY A r0 τ) args s 0 0 A) σ 142 [(0, .ref (G.2.2.1 0)), (1, .int x1), (2, .int x2), (3, .int x3)] [] := by
  rw [c_X8_help_142] at h
  refine v_iload_n hC dX8_help_142 3 rfl ?_
  refine v_iconst (v := (-1)) hC dX8_help_143 (by decide) ?_
  refine v_icmp_eq (tgt := 151) hC dX8_help_144 (by decide) (fun c_8 => ?_) (fun c_8 => ?_)
  · replace h := ift c_8 h
    refine v_iload_n hC dX8_help_151 3 rfl ?_
    exact v_iret hC rfl dX8_help_152 h
  · replace h := ifn c_8 h
    refine v_iload_n hC dX8_help_147 1 rfl ?_
    refine v_if_ne (tgt := 153) hC dX8_help_148 (by decide) (fun c_9 => ?_) (fun c_9 => ?_)
    · replace h := ifn c_9 h
      refine v_iload_n hC dX8_help_153 1 rfl ?_
      refine v_iconst (v := 1) hC dX8_help_154 (by decide) ?_
      refine v_icmp_ne (tgt := 160) hC dX8_help_155 (by decide) (fun c_10 => ?_) (fun c_10 => ?_)
      · replace h := ifn c_10 h
        refine v_iload_n hC dX8_help_160 2 rfl ?_
        refine v_aload_n hC dX8_help_161 0 rfl ?_
        refine v_get (C := RX8) (T := TX8) (N := 20) (ci := 7) (k := 1) (v := .int (gI σ 0 1)) hC hO0 hi_X8_help_X8 rfl (by decide) (by decide) rfl rfl fl16_X8_help dX8_help_162 rfl ?_
        refine v_icmp_gt (tgt := 182) hC dX8_help_165 (by decide) (fun c_11 => ?_) (fun c_11 => ?_)
        · replace h := ift c_11 h
          refine v_iconst (v := 0) hC dX8_help_182 (by decide) ?_
          exact v_iret hC rfl dX8_help_183 h
        · replace h := ifn c_11 h
          refine v_aload_n hC dX8_help_168 0 rfl ?_
          refine v_get (C := RX8) (T := TX8) (N := 20) (ci := 7) (k := 0) (v := .ref (G.2.2.1 1)) hC hO0 hi_X8_help_X8 rfl (by decide) (by decide) rfl rfl fl10_X8_help dX8_help_169 rfl ?_
          refine v_getN (C := RX0) (T := TX0) (N := 5) (ci := 0) (k := 4) (v := .int (gI σ 1 4)) hC (obX_7_0 hG hO0) hi_X8_help_X0 rfl (by decide) (by decide) rfl rfl (xE_nf_X8_167 hC.2.2.2.2.2) dX8_help_172 rfl ?_
          refine v_if_ne (tgt := 182) hC dX8_help_175 (by decide) (fun c_12 => ?_) (fun c_12 => ?_)
          · replace h := ifn c_12 h
            refine v_iconst (v := 0) hC dX8_help_182 (by decide) ?_
            exact v_iret hC rfl dX8_help_183 h
          · replace h := ift c_12 h
            refine v_iconst (v := 1) hC dX8_help_178 (by decide) ?_
            refine v_goto (tgt := 183) hC dX8_help_179 (by decide) ?_
            exact v_iret hC rfl dX8_help_183 h
      · replace h := ift c_10 h
        refine v_iload_n hC dX8_help_158 2 rfl ?_
        exact v_iret hC rfl dX8_help_159 h
    · replace h := ift c_9 h
      refine v_iload_n hC dX8_help_151 3 rfl ?_
      exact v_iret hC rfl dX8_help_152 h
def c_X8_help_43 : Nat → Int32 → Int32 → Int32 → Int32 → HS → Option (Int32 × HS)
  | 0, _, _, _, _, _ => none
  | n + 1, x1, x2, x3, x4, σ => (if (gI σ 1 1) ≤ x4 then (c_X8_help_142 x1 x2 x3 σ) else (c_X8_help_61 (fun z0 z1 z2 z3 z4 => c_X8_help_43 n z0 z1 z2 z3 z4) FU x1 x2 x3 x4 (x4 + 1) σ))
set_option maxHeartbeats 4000000 in
set_option maxRecDepth 100000 in
theorem w_X8_help_43 {adK adV : Nat → Nat} {tb : Nat} {p : Program} {l : Launch} {e : Env} {s : State} {m : MethodId} {args : Array Value} {below : List Frame} {meth : Method} {c : Code} {A : Nat → Prop} {G : WD}  {r0 : Int32} {τ : HS}   (hG : GX G xY) (hO0 : Ob G xY 0 7) (hC : Cx (xE adK adV tb) G.1 G.2.1 xY cX8_help 6 (some .int) RX8 wsX8_help p s m args meth c A)  : ∀ (n : Nat) (x1 : Int32) (x2 : Int32) (x3 : Int32) (x4 : Int32) (σ : HS), c_X8_help_43 n x1 x2 x3 x4 σ = some (r0, τ) → V p l e rmX8_help s m args below meth c 6 A G xY 0 0 (MQ below (QI G xY A r0 τ) args s 0 0 A) σ 43 [(0, .ref (G.2.2.1 0)), (1, .int x1), (2, .int x2), (3, .int x3), (4, .int x4)] [] := by
  intro n
  induction n with
  | zero => intro x1 x2 x3 x4 σ h; exact nof h
  | succ n ih =>
    intro x1 x2 x3 x4 σ h
    rw [c_X8_help_43] at h
    refine v_iload hC dX8_help_43 4 rfl ?_
    refine v_aload_n hC dX8_help_45 0 rfl ?_
    refine v_get (C := RX8) (T := TX8) (N := 20) (ci := 7) (k := 0) (v := .ref (G.2.2.1 1)) hC hO0 hi_X8_help_X8 rfl (by decide) (by decide) rfl rfl fl10_X8_help dX8_help_46 rfl ?_
    refine v_getN (C := RX0) (T := TX0) (N := 5) (ci := 0) (k := 1) (v := .int (gI σ 1 1)) hC (obX_7_0 hG hO0) hi_X8_help_X0 rfl (by decide) (by decide) rfl rfl (xE_nf_X8_124 hC.2.2.2.2.2) dX8_help_49 rfl ?_
    refine v_icmp_ge (tgt := 142) hC dX8_help_52 (by decide) (fun c_7 => ?_) (fun c_7 => ?_)
    · replace h := ift c_7 h
      refine V.sub (L' := [(0, .ref (G.2.2.1 0)), (1, .int x1), (2, .int x2), (3, .int x3)]) [0, 1, 2, 3] rfl ?_
      exact w_X8_help_142 hG (hO0) hC h
    · replace h := ifn c_7 h
      refine v_iload hC dX8_help_55 4 rfl ?_
      refine v_iconst (v := 1) hC dX8_help_57 (by decide) ?_
      refine v_iadd hC dX8_help_58 ?_
      refine v_istore (L' := [(0, .ref (G.2.2.1 0)), (1, .int x1), (2, .int x2), (3, .int x3), (4, .int x4), (5, .int (x4 + 1))]) hC dX8_help_59 (by decide) [1, 2, 3, 4, 5, 0] rfl ?_
      exact w_X8_help_61 hG (hO0) hC (fun _ _ _ _ _ h => ih _ _ _ _ _ h) FU _ _ _ _ _ _ h
def c_X8_help (p1 : Int32) (σ : HS) : Option (Int32 × HS) := (if p1 < 0 then (some ((-2), σ)) else (if p1 ≤ 2 then (bi1 (c_X0_survey 1 σ) (fun s4 => (bi1 (c_X0_layAs 5 1 s4) (fun s6 => (c_X8_help_43 FU p1 (gI s4 1 3) (-1) 0 s6))))) else (some ((-2), σ))))
set_option maxHeartbeats 4000000 in
set_option maxRecDepth 100000 in
theorem w_X8_help {adK adV : Nat → Nat} {tb : Nat} {p : Program} {l : Launch} {e : Env} {s : State} {m : MethodId} {args : Array Value} {below : List Frame} {meth : Method} {c : Code} {A : Nat → Prop} {G : WD}  {r0 : Int32} {τ : HS} {p1 : Int32} {σ : HS}  (hG : GX G xY) (hO0 : Ob G xY 0 7) (hC : Cx (xE adK adV tb) G.1 G.2.1 xY cX8_help 6 (some .int) RX8 wsX8_help p s m args meth c A) (h : c_X8_help p1 σ = some (r0, τ)) : V p l e rmX8_help s m args below meth c 6 A G xY 0 0 (MQ below (QI G xY A r0 τ) args s 0 0 A) σ 0 [(0, .ref (G.2.2.1 0)), (1, .int p1)] [] := by
  rw [c_X8_help] at h
  refine v_iload_n hC dX8_help_0 1 rfl ?_
  refine v_if_lt (tgt := 9) hC dX8_help_1 (by decide) (fun c_1 => ?_) (fun c_1 => ?_)
  · replace h := ift c_1 h
    refine v_bipush (v := (-2)) hC dX8_help_9 (by decide) ?_
    exact v_iret hC rfl dX8_help_11 h
  · replace h := ifn c_1 h
    refine v_iload_n hC dX8_help_4 1 rfl ?_
    refine v_iconst (v := 2) hC dX8_help_5 (by decide) ?_
    refine v_icmp_le (tgt := 12) hC dX8_help_6 (by decide) (fun c_2 => ?_) (fun c_2 => ?_)
    · replace h := ift c_2 h
      refine v_aload_n hC dX8_help_12 0 rfl ?_
      refine v_get (C := RX8) (T := TX8) (N := 20) (ci := 7) (k := 0) (v := .ref (G.2.2.1 1)) hC hO0 hi_X8_help_X8 rfl (by decide) (by decide) rfl rfl fl10_X8_help dX8_help_13 rfl ?_
      obtain ⟨s4, hc_3, h⟩ := bd1 h
      refine v_callVV hC xE_ok (n := 0) (As := []) (k_X0_survey l hG ((obX_7_0 hG hO0)) hc_3) (cwV 0 hC.1.2.2.2.2 gX8_help_X0_survey rfl rfl rfl (by decide +kernel) ⟨(Nat.le_of_ble_eq_true rfl), (Nat.le_of_ble_eq_true rfl)⟩) (obX_7_0 hG hO0) (by decide) rfl rfl rfl (Nat.le_of_ble_eq_true rfl) ⟨Nat.zero_le _, Nat.zero_le _⟩ dX8_help_16 rfl ?_
      refine v_aload_n hC dX8_help_19 0 rfl ?_
      refine v_get (C := RX8) (T := TX8) (N := 20) (ci := 7) (k := 0) (v := .ref (G.2.2.1 1)) hC hO0 hi_X8_help_X8 rfl (by decide) (by decide) rfl rfl fl10_X8_help dX8_help_20 rfl ?_
      refine v_getN (C := RX0) (T := TX0) (N := 5) (ci := 0) (k := 3) (v := .int (gI s4 1 3)) hC (obX_7_0 hG hO0) hi_X8_help_X0 rfl (by decide) (by decide) rfl rfl (xE_nf_X8_164 hC.2.2.2.2.2) dX8_help_23 rfl ?_
      refine v_istore_n (L' := [(0, .ref (G.2.2.1 0)), (1, .int p1), (2, .int (gI s4 1 3))]) hC dX8_help_26 (by decide) [1, 2, 0] rfl ?_
      refine v_iconst (v := (-1)) hC dX8_help_27 (by decide) ?_
      refine v_istore_n (L' := [(0, .ref (G.2.2.1 0)), (1, .int p1), (2, .int (gI s4 1 3)), (3, .int (-1))]) hC dX8_help_28 (by decide) [1, 2, 3, 0] rfl ?_
      refine v_aload_n hC dX8_help_29 0 rfl ?_
      refine v_get (C := RX8) (T := TX8) (N := 20) (ci := 7) (k := 16) (v := .ref (G.2.2.1 5)) hC hO0 hi_X8_help_X8 rfl (by decide) (by decide) rfl rfl fl78_X8_help dX8_help_30 rfl ?_
      refine v_aload_n hC dX8_help_33 0 rfl ?_
      refine v_get (C := RX8) (T := TX8) (N := 20) (ci := 7) (k := 0) (v := .ref (G.2.2.1 1)) hC hO0 hi_X8_help_X8 rfl (by decide) (by decide) rfl rfl fl10_X8_help dX8_help_34 rfl ?_
      obtain ⟨s6, hc_5, h⟩ := bd1 h
      refine v_callVV hC xE_ok (n := 1) (As := [.ref (G.2.2.1 1)]) (k_X0_layAs l hG ((obX_7_16 hG hO0)) ((obX_7_0 hG hO0)) hc_5) (cwV 1 hC.1.2.2.2.2 gX8_help_X0_layAs rfl rfl rfl (by decide +kernel) ⟨(Nat.le_of_ble_eq_true rfl), (Nat.le_of_ble_eq_true rfl)⟩) (obX_7_16 hG hO0) (by decide) rfl rfl rfl (Nat.le_of_ble_eq_true rfl) ⟨Nat.zero_le _, Nat.zero_le _⟩ dX8_help_37 rfl ?_
      refine v_iconst (v := 0) hC dX8_help_40 (by decide) ?_
      refine v_istore (L' := [(0, .ref (G.2.2.1 0)), (1, .int p1), (2, .int (gI s4 1 3)), (3, .int (-1)), (4, .int 0)]) hC dX8_help_41 (by decide) [1, 2, 3, 4, 0] rfl ?_
      exact w_X8_help_43 hG (hO0) hC FU _ _ _ _ _ h
    · replace h := ifn c_2 h
      refine v_bipush (v := (-2)) hC dX8_help_9 (by decide) ?_
      exact v_iret hC rfl dX8_help_11 h
theorem k_X8_help {adK adV : Nat → Nat} {tb : Nat} (l : Launch) {G : WD}  {r0 : Int32} {τ : HS} {p1 : Int32} {σ : HS}  (hG : GX G xY) (hO0 : Ob G xY 0 7) (h : c_X8_help p1 σ = some (r0, τ)) : MI (xE adK adV tb) l yX8_help wsX8_help rmX8_help G xY [.ref (G.2.2.1 0), .int p1] σ r0 τ :=
  MI.of RX8 (by decide) rfl rfl (Nat.le_of_ble_eq_true rfl) rfl rfl (fun p e s m below meth c hC => w_X8_help  hG hO0 hC h)
abbrev rmX8_enough : Room := { frames := 1, cells := 0, slots := 0, locals := 28 }
def c_X8_enough_35 : Nat → Int32 → Int64 → Int32 → HS → Option (Int32 × HS)
  | 0, _, _, _, _ => none
  | n + 1, x1, x3, x5, σ => (if x1 ≤ x5 then (some (x5, σ)) else (bi2 (c_X8_waysClosed x1 x5 σ) (fun r11 s10 => (if 0 ≤ (lg_cmp (100 * r11) x3) then (some (x5, s10)) else (c_X8_enough_35 n x1 x3 (x5 + 1) s10)))))
set_option maxHeartbeats 4000000 in
set_option maxRecDepth 100000 in
theorem w_X8_enough_35 {adK adV : Nat → Nat} {tb : Nat} {p : Program} {l : Launch} {e : Env} {s : State} {m : MethodId} {args : Array Value} {below : List Frame} {meth : Method} {c : Code} {A : Nat → Prop} {G : WD}  {r0 : Int32} {τ : HS}   (hG : GX G xY) (hO0 : Ob G xY 0 7) (hC : Cx (xE adK adV tb) G.1 G.2.1 xY cX8_enough 6 (some .int) RX8 wsX8_enough p s m args meth c A)  : ∀ (n : Nat) (x1 : Int32) (x3 : Int64) (x5 : Int32) (σ : HS), c_X8_enough_35 n x1 x3 x5 σ = some (r0, τ) → V p l e rmX8_enough s m args below meth c 6 A G xY 0 0 (MQ below (QI G xY A r0 τ) args s 0 0 A) σ 35 [(0, .ref (G.2.2.1 0)), (1, .int x1), (3, .long x3), (5, .int x5)] [] := by
  intro n
  induction n with
  | zero => intro x1 x3 x5 σ h; exact nof h
  | succ n ih =>
    intro x1 x3 x5 σ h
    rw [c_X8_enough_35] at h
    refine v_iload hC dX8_enough_35 3 rfl ?_
    refine v_iload_n hC dX8_enough_37 1 rfl ?_
    refine v_icmp_ge (tgt := 63) hC dX8_enough_38 (by decide) (fun c_8 => ?_) (fun c_8 => ?_)
    · replace h := ift c_8 h
      refine v_iload hC dX8_enough_63 3 rfl ?_
      exact v_iret hC rfl dX8_enough_65 h
    · replace h := ifn c_8 h
      refine v_ldc2 (v := 100) hC lc280_X8_enough dX8_enough_41 ?_
      refine v_aload_n hC dX8_enough_44 0 rfl ?_
      refine v_iload_n hC dX8_enough_45 1 rfl ?_
      refine v_iload hC dX8_enough_46 3 rfl ?_
      obtain ⟨r11, s10, hc_9, h⟩ := bd2 h
      refine v_callVJ hC xE_ok (n := 2) (As := [.int x1, .int x5]) (k_X8_waysClosed l hG (hO0) hc_9) (cwV 2 hC.1.2.2.2.2 gX8_enough_X8_waysClosed rfl rfl rfl (by decide +kernel) ⟨(Nat.le_of_ble_eq_true rfl), (Nat.le_of_ble_eq_true rfl)⟩) hO0 (by decide) rfl rfl rfl (Nat.le_of_ble_eq_true rfl) ⟨Nat.zero_le _, Nat.zero_le _⟩ dX8_enough_48 rfl ?_
      refine v_lmul hC dX8_enough_51 ?_
      refine v_lload_n hC dX8_enough_52 2 rfl ?_
      refine v_lcmp hC dX8_enough_53 ?_
      refine v_if_ge (tgt := 63) hC dX8_enough_54 (by decide) (fun c_12 => ?_) (fun c_12 => ?_)
      · replace h := ift c_12 h
        refine v_iload hC dX8_enough_63 3 rfl ?_
        exact v_iret hC rfl dX8_enough_65 h
      · replace h := ifn c_12 h
        refine v_iinc (v := (x5 + 1)) (L' := [(0, .ref (G.2.2.1 0)), (1, .int x1), (3, .long x3), (5, .int (x5 + 1))]) hC dX8_enough_57 3 rfl rfl (by decide) [1, 2, 3, 0] rfl ?_
        refine v_goto (tgt := 35) hC dX8_enough_60 (by decide) ?_
        exact ih _ _ _ _ h
def c_X8_enough (p1 : Int32) (p2 : Int32) (σ : HS) : Option (Int32 × HS) := (if p1 < 1 then (some ((-2), σ)) else (if 12 < p1 then (some ((-2), σ)) else (if p2 < 0 then (some ((-2), σ)) else (if p2 ≤ 100 then (bi2 (c_X8_factorial p1 σ) (fun r7 s6 => (c_X8_enough_35 FU p1 ((Int32.toInt64 p2) * r7) 0 s6))) else (some ((-2), σ))))))
set_option maxHeartbeats 4000000 in
set_option maxRecDepth 100000 in
theorem w_X8_enough {adK adV : Nat → Nat} {tb : Nat} {p : Program} {l : Launch} {e : Env} {s : State} {m : MethodId} {args : Array Value} {below : List Frame} {meth : Method} {c : Code} {A : Nat → Prop} {G : WD}  {r0 : Int32} {τ : HS} {p1 : Int32} {p2 : Int32} {σ : HS}  (hG : GX G xY) (hO0 : Ob G xY 0 7) (hC : Cx (xE adK adV tb) G.1 G.2.1 xY cX8_enough 6 (some .int) RX8 wsX8_enough p s m args meth c A) (h : c_X8_enough p1 p2 σ = some (r0, τ)) : V p l e rmX8_enough s m args below meth c 6 A G xY 0 0 (MQ below (QI G xY A r0 τ) args s 0 0 A) σ 0 [(0, .ref (G.2.2.1 0)), (1, .int p1), (2, .int p2)] [] := by
  rw [c_X8_enough] at h
  refine v_iload_n hC dX8_enough_0 1 rfl ?_
  refine v_iconst (v := 1) hC dX8_enough_1 (by decide) ?_
  refine v_icmp_lt (tgt := 21) hC dX8_enough_2 (by decide) (fun c_1 => ?_) (fun c_1 => ?_)
  · replace h := ift c_1 h
    refine v_bipush (v := (-2)) hC dX8_enough_21 (by decide) ?_
    exact v_iret hC rfl dX8_enough_23 h
  · replace h := ifn c_1 h
    refine v_iload_n hC dX8_enough_5 1 rfl ?_
    refine v_bipush (v := 12) hC dX8_enough_6 (by decide) ?_
    refine v_icmp_gt (tgt := 21) hC dX8_enough_8 (by decide) (fun c_2 => ?_) (fun c_2 => ?_)
    · replace h := ift c_2 h
      refine v_bipush (v := (-2)) hC dX8_enough_21 (by decide) ?_
      exact v_iret hC rfl dX8_enough_23 h
    · replace h := ifn c_2 h
      refine v_iload_n hC dX8_enough_11 2 rfl ?_
      refine v_if_lt (tgt := 21) hC dX8_enough_12 (by decide) (fun c_3 => ?_) (fun c_3 => ?_)
      · replace h := ift c_3 h
        refine v_bipush (v := (-2)) hC dX8_enough_21 (by decide) ?_
        exact v_iret hC rfl dX8_enough_23 h
      · replace h := ifn c_3 h
        refine v_iload_n hC dX8_enough_15 2 rfl ?_
        refine v_bipush (v := 100) hC dX8_enough_16 (by decide) ?_
        refine v_icmp_le (tgt := 24) hC dX8_enough_18 (by decide) (fun c_4 => ?_) (fun c_4 => ?_)
        · replace h := ift c_4 h
          refine v_iload_n hC dX8_enough_24 2 rfl ?_
          refine v_i2l hC dX8_enough_25 ?_
          refine v_iload_n hC dX8_enough_26 1 rfl ?_
          obtain ⟨r7, s6, hc_5, h⟩ := bd2 h
          refine v_callSJ hC xE_ok (n := 1) (As := [.int p1]) (k_X8_factorial l hG hc_5) (va_cwS 1 hC.1.2.2.2.2 gX8_enough_X8_factorial rfl rfl rfl (by decide +kernel) ⟨(Nat.le_of_ble_eq_true rfl), (Nat.le_of_ble_eq_true rfl)⟩) rfl (Nat.le_of_ble_eq_true rfl) ⟨Nat.zero_le _, Nat.zero_le _⟩ dX8_enough_27 rfl ?_
          refine v_lmul hC dX8_enough_30 ?_
          refine v_lstore_n (L' := [(0, .ref (G.2.2.1 0)), (1, .int p1), (3, .long ((Int32.toInt64 p2) * r7))]) hC dX8_enough_31 (by decide) [1, 2, 0] rfl ?_
          refine v_iconst (v := 0) hC dX8_enough_32 (by decide) ?_
          refine v_istore (L' := [(0, .ref (G.2.2.1 0)), (1, .int p1), (3, .long ((Int32.toInt64 p2) * r7)), (5, .int 0)]) hC dX8_enough_33 (by decide) [1, 2, 3, 0] rfl ?_
          exact w_X8_enough_35 hG (hO0) hC FU _ _ _ _ h
        · replace h := ifn c_4 h
          refine v_bipush (v := (-2)) hC dX8_enough_21 (by decide) ?_
          exact v_iret hC rfl dX8_enough_23 h
theorem k_X8_enough {adK adV : Nat → Nat} {tb : Nat} (l : Launch) {G : WD}  {r0 : Int32} {τ : HS} {p1 : Int32} {p2 : Int32} {σ : HS}  (hG : GX G xY) (hO0 : Ob G xY 0 7) (h : c_X8_enough p1 p2 σ = some (r0, τ)) : MI (xE adK adV tb) l yX8_enough wsX8_enough rmX8_enough G xY [.ref (G.2.2.1 0), .int p1, .int p2] σ r0 τ :=
  MI.of RX8 (by decide) rfl rfl (Nat.le_of_ble_eq_true rfl) rfl rfl (fun p e s m below meth c hC => w_X8_enough  hG hO0 hC h)
abbrev rmX8_holdsWeights : Room := { frames := 2, cells := 0, slots := 0, locals := 42 }
def c_X8_holdsWeights_2 : Nat → Nat → Int32 → HS → Option (Int32 × HS)
  | 0, _, _, _ => none
  | n + 1, i0, x1, σ => (if (gI σ i0 2) ≤ x1 then (some (1, σ)) else (bi2 (c_X3_at i0 x1 σ) (fun r4 s3 => (if r4 < 0 then (some (0, s3)) else (bi2 (c_X3_at i0 x1 s3) (fun r8 s7 => (if r8 ≤ 99 then (c_X8_holdsWeights_2 n i0 (x1 + 1) s7) else (some (0, s7)))))))))
set_option maxHeartbeats 4000000 in
set_option maxRecDepth 100000 in
theorem w_X8_holdsWeights_2 {adK adV : Nat → Nat} {tb : Nat} {p : Program} {l : Launch} {e : Env} {s : State} {m : MethodId} {args : Array Value} {below : List Frame} {meth : Method} {c : Code} {A : Nat → Prop} {G : WD}  {r0 : Int32} {τ : HS} {i0 : Nat}  (hG : GX G xY) (hO0 : Ob G xY i0 3) (hC : Cx (xE adK adV tb) G.1 G.2.1 xY cX8_holdsWeights 2 (some .boolean) RX8 wsX8_holdsWeights p s m args meth c A)  : ∀ (n : Nat) (x1 : Int32) (σ : HS), c_X8_holdsWeights_2 n i0 x1 σ = some (r0, τ) → V p l e rmX8_holdsWeights s m args below meth c 2 A G xY 0 0 (MQ below (QI G xY A r0 τ) args s 0 0 A) σ 2 [(0, .ref (G.2.2.1 i0)), (1, .int x1)] [] := by
  intro n
  induction n with
  | zero => intro x1 σ h; exact nof h
  | succ n ih =>
    intro x1 σ h
    rw [c_X8_holdsWeights_2] at h
    refine v_iload_n hC dX8_holdsWeights_2 1 rfl ?_
    refine v_aload_n hC dX8_holdsWeights_3 0 rfl ?_
    refine v_getN (C := RX3) (T := TX3) (N := 3) (ci := 3) (k := 2) (v := .int (gI σ i0 2)) hC hO0 hi_X8_holdsWeights_X3 rfl (by decide) (by decide) rfl rfl (xE_nf_X8_135 hC.2.2.2.2.2) dX8_holdsWeights_4 rfl ?_
    refine v_icmp_ge (tgt := 36) hC dX8_holdsWeights_7 (by decide) (fun c_1 => ?_) (fun c_1 => ?_)
    · replace h := ift c_1 h
      refine v_iconst (v := 1) hC dX8_holdsWeights_36 (by decide) ?_
      exact v_zret hC rfl rfl dX8_holdsWeights_37 h
    · replace h := ifn c_1 h
      refine v_aload_n hC dX8_holdsWeights_10 0 rfl ?_
      refine v_iload_n hC dX8_holdsWeights_11 1 rfl ?_
      obtain ⟨r4, s3, hc_2, h⟩ := bd2 h
      refine v_callVI hC xE_ok (n := 1) (As := [.int x1]) (k_X3_at l hG (hO0) hc_2) (cwV 1 hC.1.2.2.2.2 gX8_holdsWeights_X3_at rfl rfl rfl (by decide +kernel) ⟨(Nat.le_of_ble_eq_true rfl), (Nat.le_of_ble_eq_true rfl)⟩) hO0 (by decide) rfl rfl rfl (Nat.le_of_ble_eq_true rfl) ⟨Nat.zero_le _, Nat.zero_le _⟩ dX8_holdsWeights_12 rfl ?_
      refine v_if_lt (tgt := 28) hC dX8_holdsWeights_15 (by decide) (fun c_5 => ?_) (fun c_5 => ?_)
      · replace h := ift c_5 h
        refine v_iconst (v := 0) hC dX8_holdsWeights_28 (by decide) ?_
        exact v_zret hC rfl rfl dX8_holdsWeights_29 h
      · replace h := ifn c_5 h
        refine v_aload_n hC dX8_holdsWeights_18 0 rfl ?_
        refine v_iload_n hC dX8_holdsWeights_19 1 rfl ?_
        obtain ⟨r8, s7, hc_6, h⟩ := bd2 h
        refine v_callVI hC xE_ok (n := 1) (As := [.int x1]) (k_X3_at l hG (hO0) hc_6) (cwV 1 hC.1.2.2.2.2 gX8_holdsWeights_X3_at rfl rfl rfl (by decide +kernel) ⟨(Nat.le_of_ble_eq_true rfl), (Nat.le_of_ble_eq_true rfl)⟩) hO0 (by decide) rfl rfl rfl (Nat.le_of_ble_eq_true rfl) ⟨Nat.zero_le _, Nat.zero_le _⟩ dX8_holdsWeights_20 rfl ?_
        refine v_bipush (v := 99) hC dX8_holdsWeights_23 (by decide) ?_
        refine v_icmp_le (tgt := 30) hC dX8_holdsWeights_25 (by decide) (fun c_9 => ?_) (fun c_9 => ?_)
        · replace h := ift c_9 h
          refine v_iinc (v := (x1 + 1)) (L' := [(0, .ref (G.2.2.1 i0)), (1, .int (x1 + 1))]) hC dX8_holdsWeights_30 1 rfl rfl (by decide) [1, 0] rfl ?_
          refine v_goto (tgt := 2) hC dX8_holdsWeights_33 (by decide) ?_
          exact ih _ _ h
        · replace h := ifn c_9 h
          refine v_iconst (v := 0) hC dX8_holdsWeights_28 (by decide) ?_
          exact v_zret hC rfl rfl dX8_holdsWeights_29 h
def c_X8_holdsWeights (i0 : Nat) (σ : HS) : Option (Int32 × HS) := (c_X8_holdsWeights_2 FU i0 0 σ)
set_option maxHeartbeats 4000000 in
set_option maxRecDepth 100000 in
theorem w_X8_holdsWeights {adK adV : Nat → Nat} {tb : Nat} {p : Program} {l : Launch} {e : Env} {s : State} {m : MethodId} {args : Array Value} {below : List Frame} {meth : Method} {c : Code} {A : Nat → Prop} {G : WD}  {r0 : Int32} {τ : HS} {i0 : Nat} {σ : HS}  (hG : GX G xY) (hO0 : Ob G xY i0 3) (hC : Cx (xE adK adV tb) G.1 G.2.1 xY cX8_holdsWeights 2 (some .boolean) RX8 wsX8_holdsWeights p s m args meth c A) (h : c_X8_holdsWeights i0 σ = some (r0, τ)) : V p l e rmX8_holdsWeights s m args below meth c 2 A G xY 0 0 (MQ below (QI G xY A r0 τ) args s 0 0 A) σ 0 [(0, .ref (G.2.2.1 i0))] [] := by
  rw [c_X8_holdsWeights] at h
  refine v_iconst (v := 0) hC dX8_holdsWeights_0 (by decide) ?_
  refine v_istore_n (L' := [(0, .ref (G.2.2.1 i0)), (1, .int 0)]) hC dX8_holdsWeights_1 (by decide) [1, 0] rfl ?_
  exact w_X8_holdsWeights_2 hG (hO0) hC FU _ _ h
theorem k_X8_holdsWeights {adK adV : Nat → Nat} {tb : Nat} (l : Launch) {G : WD}  {r0 : Int32} {τ : HS} {i0 : Nat} {σ : HS}  (hG : GX G xY) (hO0 : Ob G xY i0 3) (h : c_X8_holdsWeights i0 σ = some (r0, τ)) : MI (xE adK adV tb) l yX8_holdsWeights wsX8_holdsWeights rmX8_holdsWeights G xY [.ref (G.2.2.1 i0)] σ r0 τ :=
  MI.of RX8 (by decide) rfl rfl (Nat.le_of_ble_eq_true rfl) rfl rfl (fun p e s m below meth c hC => w_X8_holdsWeights  hG hO0 hC h)
abbrev rmX8_heaviestBut : Room := { frames := 2, cells := 0, slots := 0, locals := 42 }
def c_X8_heaviestBut_45 (k7 : Int32 → Int32 → Int32 → Int32 → HS → Option (Int32 × HS)) (i0 : Nat) (x1 : Int32) (x2 : Int32) (x3 : Int32) (x4 : Int32) (σ : HS) : Option (Int32 × HS) := (k7 x1 x2 x3 (x4 + 1) σ)
set_option maxHeartbeats 4000000 in
set_option maxRecDepth 100000 in
theorem w_X8_heaviestBut_45 {adK adV : Nat → Nat} {tb : Nat} {p : Program} {l : Launch} {e : Env} {s : State} {m : MethodId} {args : Array Value} {below : List Frame} {meth : Method} {c : Code} {A : Nat → Prop} {G : WD}  {r0 : Int32} {τ : HS} {i0 : Nat} {k7 : Int32 → Int32 → Int32 → Int32 → HS → Option (Int32 × HS)} {x1 : Int32} {x2 : Int32} {x3 : Int32} {x4 : Int32} {σ : HS}  (hG : GX G xY) (hO0 : Ob G xY i0 3) (hC : Cx (xE adK adV tb) G.1 G.2.1 xY cX8_heaviestBut 5 (some .int) RX8 wsX8_heaviestBut p s m args meth c A) (hk7 : ∀ (x1 : Int32) (x2 : Int32) (x3 : Int32) (x4 : Int32) (σ : HS), k7 x1 x2 x3 x4 σ = some (r0, τ) → V p l e rmX8_heaviestBut s m args below meth c 5 A G xY 0 0 (MQ below (QI G xY A r0 τ) args s 0 0 A) σ 7 [(0, .ref (G.2.2.1 i0)), (1, .int x1), (2, .int x2), (3, .int x3), (4, .int x4)] []) (h : c_X8_heaviestBut_45 k7 i0 x1 x2 x3 x4 σ = some (r0, τ)) : V p l e rmX8_heaviestBut s m args below meth c 5 A G xY 0 0 (MQ below (QI G xY A r0 τ) args s 0 0 A) σ 45 [(0, .ref (G.2.2.1 i0)), (1, .int x1), (2, .int x2), (3, .int x3), (4, .int x4)] [] := by
  rw [c_X8_heaviestBut_45] at h
  refine v_iinc (v := (x4 + 1)) (L' := [(0, .ref (G.2.2.1 i0)), (1, .int x1), (2, .int x2), (3, .int x3), (4, .int (x4 + 1))]) hC dX8_heaviestBut_45 4 rfl rfl (by decide) [1, 2, 3, 4, 0] rfl ?_
  refine v_goto (tgt := 7) hC dX8_heaviestBut_48 (by decide) ?_
  exact hk7 _ _ _ _ _ h
def c_X8_heaviestBut_7 : Nat → Nat → Int32 → Int32 → Int32 → Int32 → HS → Option (Int32 × HS)
  | 0, _, _, _, _, _, _ => none
  | n + 1, i0, x1, x2, x3, x4, σ => (if (gI σ i0 2) ≤ x4 then (some (x2, σ)) else (if ((x1 >>> (x4 &&& 31)) &&& 1) = 0 then (bi2 (c_X3_at i0 x4 σ) (fun r5 s4 => (if r5 ≤ x3 then (c_X8_heaviestBut_45 (fun z0 z1 z2 z3 z4 => c_X8_heaviestBut_7 n i0 z0 z1 z2 z3 z4) i0 x1 x2 x3 x4 s4) else (bi2 (c_X3_at i0 x4 s4) (fun r9 s8 => (c_X8_heaviestBut_45 (fun z0 z1 z2 z3 z4 => c_X8_heaviestBut_7 n i0 z0 z1 z2 z3 z4) i0 x1 x4 r9 x4 s8)))))) else (c_X8_heaviestBut_45 (fun z0 z1 z2 z3 z4 => c_X8_heaviestBut_7 n i0 z0 z1 z2 z3 z4) i0 x1 x2 x3 x4 σ)))
set_option maxHeartbeats 4000000 in
set_option maxRecDepth 100000 in
theorem w_X8_heaviestBut_7 {adK adV : Nat → Nat} {tb : Nat} {p : Program} {l : Launch} {e : Env} {s : State} {m : MethodId} {args : Array Value} {below : List Frame} {meth : Method} {c : Code} {A : Nat → Prop} {G : WD}  {r0 : Int32} {τ : HS} {i0 : Nat}  (hG : GX G xY) (hO0 : Ob G xY i0 3) (hC : Cx (xE adK adV tb) G.1 G.2.1 xY cX8_heaviestBut 5 (some .int) RX8 wsX8_heaviestBut p s m args meth c A)  : ∀ (n : Nat) (x1 : Int32) (x2 : Int32) (x3 : Int32) (x4 : Int32) (σ : HS), c_X8_heaviestBut_7 n i0 x1 x2 x3 x4 σ = some (r0, τ) → V p l e rmX8_heaviestBut s m args below meth c 5 A G xY 0 0 (MQ below (QI G xY A r0 τ) args s 0 0 A) σ 7 [(0, .ref (G.2.2.1 i0)), (1, .int x1), (2, .int x2), (3, .int x3), (4, .int x4)] [] := by
  intro n
  induction n with
  | zero => intro x1 x2 x3 x4 σ h; exact nof h
  | succ n ih =>
    intro x1 x2 x3 x4 σ h
    rw [c_X8_heaviestBut_7] at h
    refine v_iload hC dX8_heaviestBut_7 4 rfl ?_
    refine v_aload_n hC dX8_heaviestBut_9 0 rfl ?_
    refine v_getN (C := RX3) (T := TX3) (N := 3) (ci := 3) (k := 2) (v := .int (gI σ i0 2)) hC hO0 hi_X8_heaviestBut_X3 rfl (by decide) (by decide) rfl rfl (xE_nf_X8_135 hC.2.2.2.2.2) dX8_heaviestBut_10 rfl ?_
    refine v_icmp_ge (tgt := 51) hC dX8_heaviestBut_13 (by decide) (fun c_1 => ?_) (fun c_1 => ?_)
    · replace h := ift c_1 h
      refine v_iload_n hC dX8_heaviestBut_51 2 rfl ?_
      exact v_iret hC rfl dX8_heaviestBut_52 h
    · replace h := ifn c_1 h
      refine v_iload_n hC dX8_heaviestBut_16 1 rfl ?_
      refine v_iload hC dX8_heaviestBut_17 4 rfl ?_
      refine v_ishr hC dX8_heaviestBut_19 ?_
      refine v_iconst (v := 1) hC dX8_heaviestBut_20 (by decide) ?_
      refine v_iand hC dX8_heaviestBut_21 ?_
      refine v_if_ne (tgt := 45) hC dX8_heaviestBut_22 (by decide) (fun c_2 => ?_) (fun c_2 => ?_)
      · replace h := ifn c_2 h
        exact w_X8_heaviestBut_45 hG (hO0) hC (fun _ _ _ _ _ h => ih _ _ _ _ _ h) h
      · replace h := ift c_2 h
        refine v_aload_n hC dX8_heaviestBut_25 0 rfl ?_
        refine v_iload hC dX8_heaviestBut_26 4 rfl ?_
        obtain ⟨r5, s4, hc_3, h⟩ := bd2 h
        refine v_callVI hC xE_ok (n := 1) (As := [.int x4]) (k_X3_at l hG (hO0) hc_3) (cwV 1 hC.1.2.2.2.2 gX8_heaviestBut_X3_at rfl rfl rfl (by decide +kernel) ⟨(Nat.le_of_ble_eq_true rfl), (Nat.le_of_ble_eq_true rfl)⟩) hO0 (by decide) rfl rfl rfl (Nat.le_of_ble_eq_true rfl) ⟨Nat.zero_le _, Nat.zero_le _⟩ dX8_heaviestBut_28 rfl ?_
        refine v_iload_n hC dX8_heaviestBut_31 3 rfl ?_
        refine v_icmp_le (tgt := 45) hC dX8_heaviestBut_32 (by decide) (fun c_6 => ?_) (fun c_6 => ?_)
        · replace h := ift c_6 h
          exact w_X8_heaviestBut_45 hG (hO0) hC (fun _ _ _ _ _ h => ih _ _ _ _ _ h) h
        · replace h := ifn c_6 h
          refine v_iload hC dX8_heaviestBut_35 4 rfl ?_
          refine v_istore_n (L' := [(0, .ref (G.2.2.1 i0)), (1, .int x1), (2, .int x4), (4, .int x4)]) hC dX8_heaviestBut_37 (by decide) [1, 2, 0, 4] rfl ?_
          refine v_aload_n hC dX8_heaviestBut_38 0 rfl ?_
          refine v_iload hC dX8_heaviestBut_39 3 rfl ?_
          obtain ⟨r9, s8, hc_7, h⟩ := bd2 h
          refine v_callVI hC xE_ok (n := 1) (As := [.int x4]) (k_X3_at l hG (hO0) hc_7) (cwV 1 hC.1.2.2.2.2 gX8_heaviestBut_X3_at rfl rfl rfl (by decide +kernel) ⟨(Nat.le_of_ble_eq_true rfl), (Nat.le_of_ble_eq_true rfl)⟩) hO0 (by decide) rfl rfl rfl (Nat.le_of_ble_eq_true rfl) ⟨Nat.zero_le _, Nat.zero_le _⟩ dX8_heaviestBut_41 rfl ?_
          refine v_istore_n (L' := [(0, .ref (G.2.2.1 i0)), (1, .int x1), (2, .int x4), (3, .int r9), (4, .int x4)]) hC dX8_heaviestBut_44 (by decide) [1, 2, 3, 0, 4] rfl ?_
          exact w_X8_heaviestBut_45 hG (hO0) hC (fun _ _ _ _ _ h => ih _ _ _ _ _ h) h
def c_X8_heaviestBut (i0 : Nat) (p1 : Int32) (σ : HS) : Option (Int32 × HS) := (c_X8_heaviestBut_7 FU i0 p1 0 (-1) 0 σ)
set_option maxHeartbeats 4000000 in
set_option maxRecDepth 100000 in
theorem w_X8_heaviestBut {adK adV : Nat → Nat} {tb : Nat} {p : Program} {l : Launch} {e : Env} {s : State} {m : MethodId} {args : Array Value} {below : List Frame} {meth : Method} {c : Code} {A : Nat → Prop} {G : WD}  {r0 : Int32} {τ : HS} {i0 : Nat} {p1 : Int32} {σ : HS}  (hG : GX G xY) (hO0 : Ob G xY i0 3) (hC : Cx (xE adK adV tb) G.1 G.2.1 xY cX8_heaviestBut 5 (some .int) RX8 wsX8_heaviestBut p s m args meth c A) (h : c_X8_heaviestBut i0 p1 σ = some (r0, τ)) : V p l e rmX8_heaviestBut s m args below meth c 5 A G xY 0 0 (MQ below (QI G xY A r0 τ) args s 0 0 A) σ 0 [(0, .ref (G.2.2.1 i0)), (1, .int p1)] [] := by
  rw [c_X8_heaviestBut] at h
  refine v_iconst (v := 0) hC dX8_heaviestBut_0 (by decide) ?_
  refine v_istore_n (L' := [(0, .ref (G.2.2.1 i0)), (1, .int p1), (2, .int 0)]) hC dX8_heaviestBut_1 (by decide) [1, 2, 0] rfl ?_
  refine v_iconst (v := (-1)) hC dX8_heaviestBut_2 (by decide) ?_
  refine v_istore_n (L' := [(0, .ref (G.2.2.1 i0)), (1, .int p1), (2, .int 0), (3, .int (-1))]) hC dX8_heaviestBut_3 (by decide) [1, 2, 3, 0] rfl ?_
  refine v_iconst (v := 0) hC dX8_heaviestBut_4 (by decide) ?_
  refine v_istore (L' := [(0, .ref (G.2.2.1 i0)), (1, .int p1), (2, .int 0), (3, .int (-1)), (4, .int 0)]) hC dX8_heaviestBut_5 (by decide) [1, 2, 3, 4, 0] rfl ?_
  exact w_X8_heaviestBut_7 hG (hO0) hC FU _ _ _ _ _ h
theorem k_X8_heaviestBut {adK adV : Nat → Nat} {tb : Nat} (l : Launch) {G : WD}  {r0 : Int32} {τ : HS} {i0 : Nat} {p1 : Int32} {σ : HS}  (hG : GX G xY) (hO0 : Ob G xY i0 3) (h : c_X8_heaviestBut i0 p1 σ = some (r0, τ)) : MI (xE adK adV tb) l yX8_heaviestBut wsX8_heaviestBut rmX8_heaviestBut G xY [.ref (G.2.2.1 i0), .int p1] σ r0 τ :=
  MI.of RX8 (by decide) rfl rfl (Nat.le_of_ble_eq_true rfl) rfl rfl (fun p e s m below meth c hC => w_X8_heaviestBut  hG hO0 hC h)
abbrev rmX8_order : Room := { frames := 3, cells := 0, slots := 0, locals := 66 }
def c_X8_order_108 (x2 : Int32) (x4 : Int32) (x5 : Int32) (σ : HS) : Option (Int32 × HS) := (if x2 = 0 then (some (x4, σ)) else (some (x5, σ)))
set_option maxHeartbeats 4000000 in
set_option maxRecDepth 100000 in
theorem w_X8_order_108 {adK adV : Nat → Nat} {tb : Nat} {p : Program} {l : Launch} {e : Env} {s : State} {m : MethodId} {args : Array Value} {below : List Frame} {meth : Method} {c : Code} {A : Nat → Prop} {G : WD}  {r0 : Int32} {τ : HS}  {x2 : Int32} {x4 : Int32} {x5 : Int32} {σ : HS}  (hG : GX G xY)  (hC : Cx (xE adK adV tb) G.1 G.2.1 xY cX8_order 8 (some .int) RX8 wsX8_order p s m args meth c A)  (h : c_X8_order_108 x2 x4 x5 σ = some (r0, τ)) : V p l e rmX8_order s m args below meth c 8 A G xY 0 0 (MQ below (QI G xY A r0 τ) args s 0 0 A) σ 108 [(2, .int x2), (4, .int x4), (5, .int x5)] [] := by
  rw [c_X8_order_108] at h
  refine v_iload_n hC dX8_order_108 0 rfl ?_
  refine v_if_ne (tgt := 117) hC dX8_order_109 (by decide) (fun c_27 => ?_) (fun c_27 => ?_)
  · replace h := ifn c_27 h
    refine v_iload hC dX8_order_117 2 rfl ?_
    exact v_iret hC rfl dX8_order_119 h
  · replace h := ift c_27 h
    refine v_iload hC dX8_order_112 1 rfl ?_
    refine v_goto (tgt := 119) hC dX8_order_114 (by decide) ?_
    exact v_iret hC rfl dX8_order_119 h
def c_X8_order_65 : Nat → Nat → Int32 → Int32 → Int32 → Int32 → HS → Option (Int32 × HS)
  | 0, _, _, _, _, _, _ => none
  | n + 1, i3, x2, x4, x5, x6, σ => (bi2 (c_X8_looksOfEach σ) (fun r19 s18 => (if r19 ≤ x6 then (c_X8_order_108 x2 x4 x5 s18) else (bi2 (c_X8_heaviestBut i3 x4 s18) (fun r23 s22 => (bi2 (c_X3_at i3 r23 s22) (fun r26 s25 => (c_X8_order_65 n i3 x2 (x4 ||| (1 <<< (r23 &&& 31))) (x5 + r26) (x6 + 1) s25))))))))
set_option maxHeartbeats 4000000 in
set_option maxRecDepth 100000 in
theorem w_X8_order_65 {adK adV : Nat → Nat} {tb : Nat} {p : Program} {l : Launch} {e : Env} {s : State} {m : MethodId} {args : Array Value} {below : List Frame} {meth : Method} {c : Code} {A : Nat → Prop} {G : WD}  {r0 : Int32} {τ : HS} {i3 : Nat}  (hG : GX G xY) (hO0 : Ob G xY 0 7) (hO3 : Ob G xY i3 3) (hC : Cx (xE adK adV tb) G.1 G.2.1 xY cX8_order 8 (some .int) RX8 wsX8_order p s m args meth c A)  : ∀ (n : Nat) (x2 : Int32) (x4 : Int32) (x5 : Int32) (x6 : Int32) (σ : HS), c_X8_order_65 n i3 x2 x4 x5 x6 σ = some (r0, τ) → V p l e rmX8_order s m args below meth c 8 A G xY 0 0 (MQ below (QI G xY A r0 τ) args s 0 0 A) σ 65 [(0, .ref (G.2.2.1 0)), (2, .int x2), (3, .ref (G.2.2.1 i3)), (4, .int x4), (5, .int x5), (6, .int x6)] [] := by
  intro n
  induction n with
  | zero => intro x2 x4 x5 x6 σ h; exact nof h
  | succ n ih =>
    intro x2 x4 x5 x6 σ h
    rw [c_X8_order_65] at h
    refine v_iload hC dX8_order_65 5 rfl ?_
    refine v_aload_n hC dX8_order_67 0 rfl ?_
    obtain ⟨r19, s18, hc_17, h⟩ := bd2 h
    refine v_callVI hC xE_ok (n := 0) (As := []) (k_X8_looksOfEach l hG (hO0) hc_17) (cwV 0 hC.1.2.2.2.2 gX8_order_X8_looksOfEach rfl rfl rfl (by decide +kernel) ⟨(Nat.le_of_ble_eq_true rfl), (Nat.le_of_ble_eq_true rfl)⟩) hO0 (by decide) rfl rfl rfl (Nat.le_of_ble_eq_true rfl) ⟨Nat.zero_le _, Nat.zero_le _⟩ dX8_order_68 rfl ?_
    refine v_icmp_ge (tgt := 108) hC dX8_order_71 (by decide) (fun c_20 => ?_) (fun c_20 => ?_)
    · replace h := ift c_20 h
      refine V.sub (L' := [(2, .int x2), (4, .int x4), (5, .int x5)]) [1, 3, 4] rfl ?_
      exact w_X8_order_108 hG hC h
    · replace h := ifn c_20 h
      refine v_aload_n hC dX8_order_74 2 rfl ?_
      refine v_iload hC dX8_order_75 3 rfl ?_
      obtain ⟨r23, s22, hc_21, h⟩ := bd2 h
      refine v_callSI hC xE_ok (n := 2) (As := [.ref (G.2.2.1 i3), .int x4]) (k_X8_heaviestBut l hG (hO3) hc_21) (va_cwS 2 hC.1.2.2.2.2 gX8_order_X8_heaviestBut rfl rfl rfl (by decide +kernel) ⟨(Nat.le_of_ble_eq_true rfl), (Nat.le_of_ble_eq_true rfl)⟩) rfl (Nat.le_of_ble_eq_true rfl) ⟨Nat.zero_le _, Nat.zero_le _⟩ dX8_order_77 rfl ?_
      refine v_istore (L' := [(0, .ref (G.2.2.1 0)), (2, .int x2), (3, .ref (G.2.2.1 i3)), (4, .int x4), (5, .int x5), (6, .int x6), (7, .int r23)]) hC dX8_order_80 (by decide) [1, 2, 3, 4, 5, 6, 0] rfl ?_
      refine v_iload hC dX8_order_82 3 rfl ?_
      refine v_iconst (v := 1) hC dX8_order_84 (by decide) ?_
      refine v_iload hC dX8_order_85 6 rfl ?_
      refine v_ishl hC dX8_order_87 ?_
      refine v_ior hC dX8_order_88 ?_
      refine v_istore (L' := [(0, .ref (G.2.2.1 0)), (2, .int x2), (3, .ref (G.2.2.1 i3)), (4, .int (x4 ||| (1 <<< (r23 &&& 31)))), (5, .int x5), (6, .int x6), (7, .int r23)]) hC dX8_order_89 (by decide) [1, 2, 3, 0, 4, 5, 6] rfl ?_
      refine v_iload hC dX8_order_91 4 rfl ?_
      refine v_aload_n hC dX8_order_93 2 rfl ?_
      refine v_iload hC dX8_order_94 6 rfl ?_
      obtain ⟨r26, s25, hc_24, h⟩ := bd2 h
      refine v_callVI hC xE_ok (n := 1) (As := [.int r23]) (k_X3_at l hG (hO3) hc_24) (cwV 1 hC.1.2.2.2.2 gX8_order_X3_at rfl rfl rfl (by decide +kernel) ⟨(Nat.le_of_ble_eq_true rfl), (Nat.le_of_ble_eq_true rfl)⟩) hO3 (by decide) rfl rfl rfl (Nat.le_of_ble_eq_true rfl) ⟨Nat.zero_le _, Nat.zero_le _⟩ dX8_order_96 rfl ?_
      refine v_iadd hC dX8_order_99 ?_
      refine v_istore (L' := [(0, .ref (G.2.2.1 0)), (2, .int x2), (3, .ref (G.2.2.1 i3)), (4, .int (x4 ||| (1 <<< (r23 &&& 31)))), (5, .int (x5 + r26)), (6, .int x6)]) hC dX8_order_100 (by decide) [1, 2, 3, 4, 0, 5] rfl ?_
      refine v_iinc (v := (x6 + 1)) (L' := [(0, .ref (G.2.2.1 0)), (2, .int x2), (3, .ref (G.2.2.1 i3)), (4, .int (x4 ||| (1 <<< (r23 &&& 31)))), (5, .int (x5 + r26)), (6, .int (x6 + 1))]) hC dX8_order_102 5 rfl rfl (by decide) [1, 2, 3, 4, 5, 0] rfl ?_
      refine v_goto (tgt := 65) hC dX8_order_105 (by decide) ?_
      exact ih _ _ _ _ _ h
def c_X8_order (p1 : Int32) (p2 : Int32) (σ : HS) : Option (Int32 × HS) := (bi2 (c_X8_sheetAt p1 σ) (fun r3 s2 => (mo r3 (some ((-2), s2)) (fun j5 => (if p2 < 0 then (some ((-2), s2)) else (if p2 ≤ 1 then (bi2 (c_X3_isMissing j5 s2) (fun r10 s9 => (if r10 = 0 then (if (gI s9 j5 2) = (gI s9 1 1) then (bi2 (c_X8_holdsWeights j5 s9) (fun r15 s14 => (if r15 = 0 then (some ((-2), s14)) else (c_X8_order_65 FU j5 p2 0 0 0 s14)))) else (some ((-2), s9))) else (some ((-11), s9))))) else (some ((-2), s2))))))))
set_option maxHeartbeats 4000000 in
set_option maxRecDepth 100000 in
theorem w_X8_order {adK adV : Nat → Nat} {tb : Nat} {p : Program} {l : Launch} {e : Env} {s : State} {m : MethodId} {args : Array Value} {below : List Frame} {meth : Method} {c : Code} {A : Nat → Prop} {G : WD}  {r0 : Int32} {τ : HS} {p1 : Int32} {p2 : Int32} {σ : HS}  (hG : GX G xY) (hO0 : Ob G xY 0 7) (hC : Cx (xE adK adV tb) G.1 G.2.1 xY cX8_order 8 (some .int) RX8 wsX8_order p s m args meth c A) (h : c_X8_order p1 p2 σ = some (r0, τ)) : V p l e rmX8_order s m args below meth c 8 A G xY 0 0 (MQ below (QI G xY A r0 τ) args s 0 0 A) σ 0 [(0, .ref (G.2.2.1 0)), (1, .int p1), (2, .int p2)] [] := by
  rw [c_X8_order] at h
  refine v_aload_n hC dX8_order_0 0 rfl ?_
  refine v_iload_n hC dX8_order_1 1 rfl ?_
  obtain ⟨r3, s2, hc_1, h⟩ := bd2 h
  refine v_callVR hC xE_ok (n := 1) (As := [.int p1]) (k_X8_sheetAt l hG (hO0) hc_1) (cwV 1 hC.1.2.2.2.2 gX8_order_X8_sheetAt rfl rfl rfl (by decide +kernel) ⟨(Nat.le_of_ble_eq_true rfl), (Nat.le_of_ble_eq_true rfl)⟩) hO0 (by decide) rfl rfl rfl (Nat.le_of_ble_eq_true rfl) ⟨Nat.zero_le _, Nat.zero_le _⟩ dX8_order_2 rfl ?_
  refine v_wt (fun hv_4 => ?_)
  refine v_astore_nR (L' := [(0, .ref (G.2.2.1 0)), (2, .int p2), (3, rv G.2.2.1 r3)]) hC dX8_order_5 (by decide) [1, 3, 0] rfl ?_
  refine v_aload_nR hC dX8_order_6 2 rfl ?_
  cases r3 with
  | none =>
    replace h := mo_n h
    refine v_ifnull_t (tgt := 19) hC dX8_order_7 (by decide) ?_
    refine v_bipush (v := (-2)) hC dX8_order_19 (by decide) ?_
    exact v_iret hC rfl dX8_order_21 h
  | some j5 =>
    replace h := mo_s h
    refine v_ifnull_f hC dX8_order_7 ?_
    refine V.sub (L' := [(0, .ref (G.2.2.1 0)), (2, .int p2), (3, .ref (G.2.2.1 j5))]) [0, 1, 2] rfl ?_
    refine v_iload_n hC dX8_order_10 1 rfl ?_
    refine v_if_lt (tgt := 19) hC dX8_order_11 (by decide) (fun c_6 => ?_) (fun c_6 => ?_)
    · replace h := ift c_6 h
      refine v_bipush (v := (-2)) hC dX8_order_19 (by decide) ?_
      exact v_iret hC rfl dX8_order_21 h
    · replace h := ifn c_6 h
      refine v_iload_n hC dX8_order_14 1 rfl ?_
      refine v_iconst (v := 1) hC dX8_order_15 (by decide) ?_
      refine v_icmp_le (tgt := 22) hC dX8_order_16 (by decide) (fun c_7 => ?_) (fun c_7 => ?_)
      · replace h := ift c_7 h
        refine v_aload_n hC dX8_order_22 2 rfl ?_
        obtain ⟨r10, s9, hc_8, h⟩ := bd2 h
        refine v_callVI hC xE_ok (n := 0) (As := []) (k_X3_isMissing l hG ((show Ob G xY j5 3 from (rok_sheetAt hG (hO0) hv_4 hc_1) j5 rfl)) hc_8) (cwV 0 hC.1.2.2.2.2 gX8_order_X3_isMissing rfl rfl rfl (by decide +kernel) ⟨(Nat.le_of_ble_eq_true rfl), (Nat.le_of_ble_eq_true rfl)⟩) (show Ob G xY j5 3 from (rok_sheetAt hG (hO0) hv_4 hc_1) j5 rfl) (by decide) rfl rfl rfl (Nat.le_of_ble_eq_true rfl) ⟨Nat.zero_le _, Nat.zero_le _⟩ dX8_order_23 rfl ?_
        refine v_if_eq (tgt := 32) hC dX8_order_26 (by decide) (fun c_11 => ?_) (fun c_11 => ?_)
        · replace h := ift c_11 h
          refine v_aload_n hC dX8_order_32 2 rfl ?_
          refine v_getN (C := RX3) (T := TX3) (N := 3) (ci := 3) (k := 2) (v := .int (gI s9 j5 2)) hC (show Ob G xY j5 3 from (rok_sheetAt hG (hO0) hv_4 hc_1) j5 rfl) hi_X8_order_X3 rfl (by decide) (by decide) rfl rfl (xE_nf_X8_135 hC.2.2.2.2.2) dX8_order_33 rfl ?_
          refine v_aload_n hC dX8_order_36 0 rfl ?_
          refine v_get (C := RX8) (T := TX8) (N := 20) (ci := 7) (k := 0) (v := .ref (G.2.2.1 1)) hC hO0 hi_X8_order_X8 rfl (by decide) (by decide) rfl rfl fl10_X8_order dX8_order_37 rfl ?_
          refine v_getN (C := RX0) (T := TX0) (N := 5) (ci := 0) (k := 1) (v := .int (gI s9 1 1)) hC (obX_7_0 hG hO0) hi_X8_order_X0 rfl (by decide) (by decide) rfl rfl (xE_nf_X8_124 hC.2.2.2.2.2) dX8_order_40 rfl ?_
          refine v_icmp_ne (tgt := 53) hC dX8_order_43 (by decide) (fun c_12 => ?_) (fun c_12 => ?_)
          · replace h := ifn c_12 h
            refine v_bipush (v := (-2)) hC dX8_order_53 (by decide) ?_
            exact v_iret hC rfl dX8_order_55 h
          · replace h := ift c_12 h
            refine v_aload_n hC dX8_order_46 2 rfl ?_
            obtain ⟨r15, s14, hc_13, h⟩ := bd2 h
            refine v_callSI hC xE_ok (n := 1) (As := [.ref (G.2.2.1 j5)]) (k_X8_holdsWeights l hG ((show Ob G xY j5 3 from (rok_sheetAt hG (hO0) hv_4 hc_1) j5 rfl)) hc_13) (va_cwS 1 hC.1.2.2.2.2 gX8_order_X8_holdsWeights rfl rfl rfl (by decide +kernel) ⟨(Nat.le_of_ble_eq_true rfl), (Nat.le_of_ble_eq_true rfl)⟩) rfl (Nat.le_of_ble_eq_true rfl) ⟨Nat.zero_le _, Nat.zero_le _⟩ dX8_order_47 rfl ?_
            refine v_if_ne (tgt := 56) hC dX8_order_50 (by decide) (fun c_16 => ?_) (fun c_16 => ?_)
            · replace h := ifn c_16 h
              refine v_iconst (v := 0) hC dX8_order_56 (by decide) ?_
              refine v_istore (L' := [(0, .ref (G.2.2.1 0)), (2, .int p2), (3, .ref (G.2.2.1 j5)), (4, .int 0)]) hC dX8_order_57 (by decide) [1, 2, 3, 0] rfl ?_
              refine v_iconst (v := 0) hC dX8_order_59 (by decide) ?_
              refine v_istore (L' := [(0, .ref (G.2.2.1 0)), (2, .int p2), (3, .ref (G.2.2.1 j5)), (4, .int 0), (5, .int 0)]) hC dX8_order_60 (by decide) [1, 2, 3, 4, 0] rfl ?_
              refine v_iconst (v := 0) hC dX8_order_62 (by decide) ?_
              refine v_istore (L' := [(0, .ref (G.2.2.1 0)), (2, .int p2), (3, .ref (G.2.2.1 j5)), (4, .int 0), (5, .int 0), (6, .int 0)]) hC dX8_order_63 (by decide) [1, 2, 3, 4, 5, 0] rfl ?_
              exact w_X8_order_65 hG (hO0) ((show Ob G xY j5 3 from (rok_sheetAt hG (hO0) hv_4 hc_1) j5 rfl)) hC FU _ _ _ _ _ h
            · replace h := ift c_16 h
              refine v_bipush (v := (-2)) hC dX8_order_53 (by decide) ?_
              exact v_iret hC rfl dX8_order_55 h
        · replace h := ifn c_11 h
          refine v_bipush (v := (-11)) hC dX8_order_29 (by decide) ?_
          exact v_iret hC rfl dX8_order_31 h
      · replace h := ifn c_7 h
        refine v_bipush (v := (-2)) hC dX8_order_19 (by decide) ?_
        exact v_iret hC rfl dX8_order_21 h
theorem k_X8_order {adK adV : Nat → Nat} {tb : Nat} (l : Launch) {G : WD}  {r0 : Int32} {τ : HS} {p1 : Int32} {p2 : Int32} {σ : HS}  (hG : GX G xY) (hO0 : Ob G xY 0 7) (h : c_X8_order p1 p2 σ = some (r0, τ)) : MI (xE adK adV tb) l yX8_order wsX8_order rmX8_order G xY [.ref (G.2.2.1 0), .int p1, .int p2] σ r0 τ :=
  MI.of RX8 (by decide) rfl rfl (Nat.le_of_ble_eq_true rfl) rfl rfl (fun p e s m below meth c hC => w_X8_order  hG hO0 hC h)
abbrev rmX8_image : Room := { frames := 2, cells := 0, slots := 0, locals := 81 }
def c_X8_image (σ : HS) : Option (Int32 × HS) := (bi1 (c_X0_layAs 3 1 σ) (fun s2 => (lt (sI s2 0 4 (gI s2 0 1)) (fun s3 => (lt (sI s3 0 5 (gI s3 0 2)) (fun s5 => (lt (sI s5 0 6 1) (fun s7 => (some ((gI s7 1 1), s7))))))))))
set_option maxHeartbeats 4000000 in
set_option maxRecDepth 100000 in
theorem w_X8_image {adK adV : Nat → Nat} {tb : Nat} {p : Program} {l : Launch} {e : Env} {s : State} {m : MethodId} {args : Array Value} {below : List Frame} {meth : Method} {c : Code} {A : Nat → Prop} {G : WD}  {r0 : Int32} {τ : HS}  {σ : HS}  (hG : GX G xY) (hO0 : Ob G xY 0 7) (hC : Cx (xE adK adV tb) G.1 G.2.1 xY cX8_image 1 (some .int) RX8 wsX8_image p s m args meth c A) (h : c_X8_image  σ = some (r0, τ)) : V p l e rmX8_image s m args below meth c 1 A G xY 0 0 (MQ below (QI G xY A r0 τ) args s 0 0 A) σ 0 [(0, .ref (G.2.2.1 0))] [] := by
  rw [c_X8_image] at h
  refine v_aload_n hC dX8_image_0 0 rfl ?_
  refine v_get (C := RX8) (T := TX8) (N := 20) (ci := 7) (k := 3) (v := .ref (G.2.2.1 3)) hC hO0 hi_X8_image_X8 rfl (by decide) (by decide) rfl rfl fl23_X8_image dX8_image_1 rfl ?_
  refine v_aload_n hC dX8_image_4 0 rfl ?_
  refine v_get (C := RX8) (T := TX8) (N := 20) (ci := 7) (k := 0) (v := .ref (G.2.2.1 1)) hC hO0 hi_X8_image_X8 rfl (by decide) (by decide) rfl rfl fl10_X8_image dX8_image_5 rfl ?_
  obtain ⟨s2, hc_1, h⟩ := bd1 h
  refine v_callVV hC xE_ok (n := 1) (As := [.ref (G.2.2.1 1)]) (k_X0_layAs l hG ((obX_7_3 hG hO0)) ((obX_7_0 hG hO0)) hc_1) (cwV 1 hC.1.2.2.2.2 gX8_image_X0_layAs rfl rfl rfl (by decide +kernel) ⟨(Nat.le_of_ble_eq_true rfl), (Nat.le_of_ble_eq_true rfl)⟩) (obX_7_3 hG hO0) (by decide) rfl rfl rfl (Nat.le_of_ble_eq_true rfl) ⟨Nat.zero_le _, Nat.zero_le _⟩ dX8_image_8 rfl ?_
  refine v_aload_n hC dX8_image_11 0 rfl ?_
  refine v_aload_n hC dX8_image_12 0 rfl ?_
  refine v_get (C := RX8) (T := TX8) (N := 20) (ci := 7) (k := 1) (v := .int (gI s2 0 1)) hC hO0 hi_X8_image_X8 rfl (by decide) (by decide) rfl rfl fl16_X8_image dX8_image_13 rfl ?_
  refine v_putI (C := RX8) (T := TX8) (N := 20) (ci := 7) (k := 4) (ty := .int) hC hO0 hi_X8_image_X8 rfl (by decide) (by decide) rfl rfl tyX8_ok nmX8 fl289_X8_image rfl rfl rfl rfl rfl dX8_image_16 ?_
  obtain ⟨s3, e4, h⟩ := ld h
  refine V.eq e4 ?_
  refine v_aload_n hC dX8_image_19 0 rfl ?_
  refine v_aload_n hC dX8_image_20 0 rfl ?_
  refine v_get (C := RX8) (T := TX8) (N := 20) (ci := 7) (k := 2) (v := .int (gI s3 0 2)) hC hO0 hi_X8_image_X8 rfl (by decide) (by decide) rfl rfl fl20_X8_image dX8_image_21 rfl ?_
  refine v_putI (C := RX8) (T := TX8) (N := 20) (ci := 7) (k := 5) (ty := .int) hC hO0 hi_X8_image_X8 rfl (by decide) (by decide) rfl rfl tyX8_ok nmX8 fl292_X8_image rfl rfl rfl rfl rfl dX8_image_24 ?_
  obtain ⟨s5, e6, h⟩ := ld h
  refine V.eq e6 ?_
  refine v_aload_n hC dX8_image_27 0 rfl ?_
  refine v_iconst (v := 1) hC dX8_image_28 (by decide) ?_
  refine v_putI (C := RX8) (T := TX8) (N := 20) (ci := 7) (k := 6) (ty := .boolean) hC hO0 hi_X8_image_X8 rfl (by decide) (by decide) rfl rfl tyX8_ok nmX8 fl26_X8_image rfl rfl rfl rfl rfl dX8_image_29 ?_
  obtain ⟨s7, e8, h⟩ := ld h
  refine V.eq e8 ?_
  refine v_aload_n hC dX8_image_32 0 rfl ?_
  refine v_get (C := RX8) (T := TX8) (N := 20) (ci := 7) (k := 0) (v := .ref (G.2.2.1 1)) hC hO0 hi_X8_image_X8 rfl (by decide) (by decide) rfl rfl fl10_X8_image dX8_image_33 rfl ?_
  refine v_getN (C := RX0) (T := TX0) (N := 5) (ci := 0) (k := 1) (v := .int (gI s7 1 1)) hC (obX_7_0 hG hO0) hi_X8_image_X0 rfl (by decide) (by decide) rfl rfl (xE_nf_X8_124 hC.2.2.2.2.2) dX8_image_36 rfl ?_
  exact v_iret hC rfl dX8_image_39 h
theorem k_X8_image {adK adV : Nat → Nat} {tb : Nat} (l : Launch) {G : WD}  {r0 : Int32} {τ : HS}  {σ : HS}  (hG : GX G xY) (hO0 : Ob G xY 0 7) (h : c_X8_image  σ = some (r0, τ)) : MI (xE adK adV tb) l yX8_image wsX8_image rmX8_image G xY [.ref (G.2.2.1 0)] σ r0 τ :=
  MI.of RX8 (by decide) rfl rfl (Nat.le_of_ble_eq_true rfl) rfl rfl (fun p e s m below meth c hC => w_X8_image  hG hO0 hC h)
abbrev rmX8_back : Room := { frames := 2, cells := 0, slots := 0, locals := 81 }
def c_X8_back (σ : HS) : Option (Int32 × HS) := (if (gI σ 0 6) = 0 then (some ((-3), σ)) else (bi1 (c_X0_layAs 1 3 σ) (fun s3 => (lt (sI s3 0 1 (gI s3 0 4)) (fun s4 => (lt (sI s4 0 2 (gI s4 0 5)) (fun s6 => (some ((gI s6 1 1), s6)))))))))
set_option maxHeartbeats 4000000 in
set_option maxRecDepth 100000 in
theorem w_X8_back {adK adV : Nat → Nat} {tb : Nat} {p : Program} {l : Launch} {e : Env} {s : State} {m : MethodId} {args : Array Value} {below : List Frame} {meth : Method} {c : Code} {A : Nat → Prop} {G : WD}  {r0 : Int32} {τ : HS}  {σ : HS}  (hG : GX G xY) (hO0 : Ob G xY 0 7) (hC : Cx (xE adK adV tb) G.1 G.2.1 xY cX8_back 1 (some .int) RX8 wsX8_back p s m args meth c A) (h : c_X8_back  σ = some (r0, τ)) : V p l e rmX8_back s m args below meth c 1 A G xY 0 0 (MQ below (QI G xY A r0 τ) args s 0 0 A) σ 0 [(0, .ref (G.2.2.1 0))] [] := by
  rw [c_X8_back] at h
  refine v_aload_n hC dX8_back_0 0 rfl ?_
  refine v_get (C := RX8) (T := TX8) (N := 20) (ci := 7) (k := 6) (v := .int (gI σ 0 6)) hC hO0 hi_X8_back_X8 rfl (by decide) (by decide) rfl rfl fl26_X8_back dX8_back_1 rfl ?_
  refine v_if_ne (tgt := 10) hC dX8_back_4 (by decide) (fun c_1 => ?_) (fun c_1 => ?_)
  · replace h := ifn c_1 h
    refine v_aload_n hC dX8_back_10 0 rfl ?_
    refine v_get (C := RX8) (T := TX8) (N := 20) (ci := 7) (k := 0) (v := .ref (G.2.2.1 1)) hC hO0 hi_X8_back_X8 rfl (by decide) (by decide) rfl rfl fl10_X8_back dX8_back_11 rfl ?_
    refine v_aload_n hC dX8_back_14 0 rfl ?_
    refine v_get (C := RX8) (T := TX8) (N := 20) (ci := 7) (k := 3) (v := .ref (G.2.2.1 3)) hC hO0 hi_X8_back_X8 rfl (by decide) (by decide) rfl rfl fl23_X8_back dX8_back_15 rfl ?_
    obtain ⟨s3, hc_2, h⟩ := bd1 h
    refine v_callVV hC xE_ok (n := 1) (As := [.ref (G.2.2.1 3)]) (k_X0_layAs l hG ((obX_7_0 hG hO0)) ((obX_7_3 hG hO0)) hc_2) (cwV 1 hC.1.2.2.2.2 gX8_back_X0_layAs rfl rfl rfl (by decide +kernel) ⟨(Nat.le_of_ble_eq_true rfl), (Nat.le_of_ble_eq_true rfl)⟩) (obX_7_0 hG hO0) (by decide) rfl rfl rfl (Nat.le_of_ble_eq_true rfl) ⟨Nat.zero_le _, Nat.zero_le _⟩ dX8_back_18 rfl ?_
    refine v_aload_n hC dX8_back_21 0 rfl ?_
    refine v_aload_n hC dX8_back_22 0 rfl ?_
    refine v_get (C := RX8) (T := TX8) (N := 20) (ci := 7) (k := 4) (v := .int (gI s3 0 4)) hC hO0 hi_X8_back_X8 rfl (by decide) (by decide) rfl rfl fl289_X8_back dX8_back_23 rfl ?_
    refine v_putI (C := RX8) (T := TX8) (N := 20) (ci := 7) (k := 1) (ty := .int) hC hO0 hi_X8_back_X8 rfl (by decide) (by decide) rfl rfl tyX8_ok nmX8 fl16_X8_back rfl rfl rfl rfl rfl dX8_back_26 ?_
    obtain ⟨s4, e5, h⟩ := ld h
    refine V.eq e5 ?_
    refine v_aload_n hC dX8_back_29 0 rfl ?_
    refine v_aload_n hC dX8_back_30 0 rfl ?_
    refine v_get (C := RX8) (T := TX8) (N := 20) (ci := 7) (k := 5) (v := .int (gI s4 0 5)) hC hO0 hi_X8_back_X8 rfl (by decide) (by decide) rfl rfl fl292_X8_back dX8_back_31 rfl ?_
    refine v_putI (C := RX8) (T := TX8) (N := 20) (ci := 7) (k := 2) (ty := .int) hC hO0 hi_X8_back_X8 rfl (by decide) (by decide) rfl rfl tyX8_ok nmX8 fl20_X8_back rfl rfl rfl rfl rfl dX8_back_34 ?_
    obtain ⟨s6, e7, h⟩ := ld h
    refine V.eq e7 ?_
    refine v_aload_n hC dX8_back_37 0 rfl ?_
    refine v_get (C := RX8) (T := TX8) (N := 20) (ci := 7) (k := 0) (v := .ref (G.2.2.1 1)) hC hO0 hi_X8_back_X8 rfl (by decide) (by decide) rfl rfl fl10_X8_back dX8_back_38 rfl ?_
    refine v_getN (C := RX0) (T := TX0) (N := 5) (ci := 0) (k := 1) (v := .int (gI s6 1 1)) hC (obX_7_0 hG hO0) hi_X8_back_X0 rfl (by decide) (by decide) rfl rfl (xE_nf_X8_124 hC.2.2.2.2.2) dX8_back_41 rfl ?_
    exact v_iret hC rfl dX8_back_44 h
  · replace h := ift c_1 h
    refine v_bipush (v := (-3)) hC dX8_back_7 (by decide) ?_
    exact v_iret hC rfl dX8_back_9 h
theorem k_X8_back {adK adV : Nat → Nat} {tb : Nat} (l : Launch) {G : WD}  {r0 : Int32} {τ : HS}  {σ : HS}  (hG : GX G xY) (hO0 : Ob G xY 0 7) (h : c_X8_back  σ = some (r0, τ)) : MI (xE adK adV tb) l yX8_back wsX8_back rmX8_back G xY [.ref (G.2.2.1 0)] σ r0 τ :=
  MI.of RX8 (by decide) rfl rfl (Nat.le_of_ble_eq_true rfl) rfl rfl (fun p e s m below meth c hC => w_X8_back  hG hO0 hC h)
abbrev rmX8_count : Room := { frames := 0, cells := 0, slots := 0, locals := 0 }
def c_X8_count (p1 : Int32) (σ : HS) : Option (Int32 × HS) := (if p1 = 0 then (some ((gI σ 1 1), σ)) else (if p1 = 1 then (some ((gI σ 0 1), σ)) else (if p1 = 2 then (some ((gI σ 0 8), σ)) else (if p1 = 3 then (some ((gI σ 0 12), σ)) else (if p1 = 4 then (some ((gI σ 12 1), σ)) else (if p1 = 5 then (some ((gI σ 0 2), σ)) else (some ((-2), σ))))))))
set_option maxHeartbeats 4000000 in
set_option maxRecDepth 100000 in
theorem w_X8_count {adK adV : Nat → Nat} {tb : Nat} {p : Program} {l : Launch} {e : Env} {s : State} {m : MethodId} {args : Array Value} {below : List Frame} {meth : Method} {c : Code} {A : Nat → Prop} {G : WD}  {r0 : Int32} {τ : HS} {p1 : Int32} {σ : HS}  (hG : GX G xY) (hO0 : Ob G xY 0 7) (hC : Cx (xE adK adV tb) G.1 G.2.1 xY cX8_count 2 (some .int) RX8 wsX8_count p s m args meth c A) (h : c_X8_count p1 σ = some (r0, τ)) : V p l e rmX8_count s m args below meth c 2 A G xY 0 0 (MQ below (QI G xY A r0 τ) args s 0 0 A) σ 0 [(0, .ref (G.2.2.1 0)), (1, .int p1)] [] := by
  rw [c_X8_count] at h
  refine v_iload_n hC dX8_count_0 1 rfl ?_
  by_cases c_1 : p1 = 0
  · replace h := ift c_1 h
    refine v_tabIn (v := 0) (tgt := 40) c_1 hC dX8_count_1 (by decide) (by decide) rfl (by decide) ?_
    refine v_aload_n hC dX8_count_40 0 rfl ?_
    refine v_get (C := RX8) (T := TX8) (N := 20) (ci := 7) (k := 0) (v := .ref (G.2.2.1 1)) hC hO0 hi_X8_count_X8 rfl (by decide) (by decide) rfl rfl fl10_X8_count dX8_count_41 rfl ?_
    refine v_getN (C := RX0) (T := TX0) (N := 5) (ci := 0) (k := 1) (v := .int (gI σ 1 1)) hC (obX_7_0 hG hO0) hi_X8_count_X0 rfl (by decide) (by decide) rfl rfl (xE_nf_X8_124 hC.2.2.2.2.2) dX8_count_44 rfl ?_
    exact v_iret hC rfl dX8_count_47 h
  · replace h := ifn c_1 h
    by_cases c_2 : p1 = 1
    · replace h := ift c_2 h
      refine v_tabIn (v := 1) (tgt := 48) c_2 hC dX8_count_1 (by decide) (by decide) rfl (by decide) ?_
      refine v_aload_n hC dX8_count_48 0 rfl ?_
      refine v_get (C := RX8) (T := TX8) (N := 20) (ci := 7) (k := 1) (v := .int (gI σ 0 1)) hC hO0 hi_X8_count_X8 rfl (by decide) (by decide) rfl rfl fl16_X8_count dX8_count_49 rfl ?_
      exact v_iret hC rfl dX8_count_52 h
    · replace h := ifn c_2 h
      by_cases c_3 : p1 = 2
      · replace h := ift c_3 h
        refine v_tabIn (v := 2) (tgt := 53) c_3 hC dX8_count_1 (by decide) (by decide) rfl (by decide) ?_
        refine v_aload_n hC dX8_count_53 0 rfl ?_
        refine v_get (C := RX8) (T := TX8) (N := 20) (ci := 7) (k := 8) (v := .int (gI σ 0 8)) hC hO0 hi_X8_count_X8 rfl (by decide) (by decide) rfl rfl fl36_X8_count dX8_count_54 rfl ?_
        exact v_iret hC rfl dX8_count_57 h
      · replace h := ifn c_3 h
        by_cases c_4 : p1 = 3
        · replace h := ift c_4 h
          refine v_tabIn (v := 3) (tgt := 58) c_4 hC dX8_count_1 (by decide) (by decide) rfl (by decide) ?_
          refine v_aload_n hC dX8_count_58 0 rfl ?_
          refine v_get (C := RX8) (T := TX8) (N := 20) (ci := 7) (k := 12) (v := .int (gI σ 0 12)) hC hO0 hi_X8_count_X8 rfl (by decide) (by decide) rfl rfl fl55_X8_count dX8_count_59 rfl ?_
          exact v_iret hC rfl dX8_count_62 h
        · replace h := ifn c_4 h
          by_cases c_5 : p1 = 4
          · replace h := ift c_5 h
            refine v_tabIn (v := 4) (tgt := 63) c_5 hC dX8_count_1 (by decide) (by decide) rfl (by decide) ?_
            refine v_aload_n hC dX8_count_63 0 rfl ?_
            refine v_get (C := RX8) (T := TX8) (N := 20) (ci := 7) (k := 13) (v := .ref (G.2.2.1 12)) hC hO0 hi_X8_count_X8 rfl (by decide) (by decide) rfl rfl fl61_X8_count dX8_count_64 rfl ?_
            refine v_getN (C := RX5) (T := TX5) (N := 2) (ci := 5) (k := 1) (v := .int (gI σ 12 1)) hC (obX_7_13 hG hO0) hi_X8_count_X5 rfl (by decide) (by decide) rfl rfl (xE_nf_X8_170 hC.2.2.2.2.2) dX8_count_67 rfl ?_
            exact v_iret hC rfl dX8_count_70 h
          · replace h := ifn c_5 h
            by_cases c_6 : p1 = 5
            · replace h := ift c_6 h
              refine v_tabIn (v := 5) (tgt := 71) c_6 hC dX8_count_1 (by decide) (by decide) rfl (by decide) ?_
              refine v_aload_n hC dX8_count_71 0 rfl ?_
              refine v_get (C := RX8) (T := TX8) (N := 20) (ci := 7) (k := 2) (v := .int (gI σ 0 2)) hC hO0 hi_X8_count_X8 rfl (by decide) (by decide) rfl rfl fl20_X8_count dX8_count_72 rfl ?_
              exact v_iret hC rfl dX8_count_75 h
            · replace h := ifn c_6 h
              have nc_1 : (Int32.toInt p1) ≠ 0 := fun q => c_1 (Int32.toInt_inj.mp q)
              have nc_2 : (Int32.toInt p1) ≠ 1 := fun q => c_2 (Int32.toInt_inj.mp q)
              have nc_3 : (Int32.toInt p1) ≠ 2 := fun q => c_3 (Int32.toInt_inj.mp q)
              have nc_4 : (Int32.toInt p1) ≠ 3 := fun q => c_4 (Int32.toInt_inj.mp q)
              have nc_5 : (Int32.toInt p1) ≠ 4 := fun q => c_5 (Int32.toInt_inj.mp q)
              have nc_6 : (Int32.toInt p1) ≠ 5 := fun q => c_6 (Int32.toInt_inj.mp q)
              refine v_tableOut (tgt := 76) hC dX8_count_1 (by omega) (by decide) ?_
              refine v_bipush (v := (-2)) hC dX8_count_76 (by decide) ?_
              exact v_iret hC rfl dX8_count_78 h
theorem k_X8_count {adK adV : Nat → Nat} {tb : Nat} (l : Launch) {G : WD}  {r0 : Int32} {τ : HS} {p1 : Int32} {σ : HS}  (hG : GX G xY) (hO0 : Ob G xY 0 7) (h : c_X8_count p1 σ = some (r0, τ)) : MI (xE adK adV tb) l yX8_count wsX8_count rmX8_count G xY [.ref (G.2.2.1 0), .int p1] σ r0 τ :=
  MI.of RX8 (by decide) rfl rfl (Nat.le_of_ble_eq_true rfl) rfl rfl (fun p e s m below meth c hC => w_X8_count  hG hO0 hC h)
abbrev rmX8_sheet : Room := { frames := 2, cells := 0, slots := 0, locals := 53 }
def c_X8_sheet (p1 : Int32) (p2 : Int32) (p3 : Int32) (σ : HS) : Option (Int32 × HS) := (bi2 (c_X8_sheetAt p1 σ) (fun r3 s2 => (mo r3 (some ((-2), s2)) (fun j5 => (if p2 < (-1) then (some ((-2), s2)) else (if p2 ≤ 2 then (if p2 = (-1) then (bi1 (c_X3_become j5 (-1) 0 s2) (fun s14 => (some (1, s14)))) else (if p3 ≤ 40 then (if 0 ≤ p3 then (bi1 (c_X3_become j5 p2 p3 s2) (fun s12 => (some (1, s12)))) else (some ((-14), s2))) else (some ((-2), s2)))) else (some ((-2), s2))))))))
set_option maxHeartbeats 4000000 in
set_option maxRecDepth 100000 in
theorem w_X8_sheet {adK adV : Nat → Nat} {tb : Nat} {p : Program} {l : Launch} {e : Env} {s : State} {m : MethodId} {args : Array Value} {below : List Frame} {meth : Method} {c : Code} {A : Nat → Prop} {G : WD}  {r0 : Int32} {τ : HS} {p1 : Int32} {p2 : Int32} {p3 : Int32} {σ : HS}  (hG : GX G xY) (hO0 : Ob G xY 0 7) (hC : Cx (xE adK adV tb) G.1 G.2.1 xY cX8_sheet 5 (some .int) RX8 wsX8_sheet p s m args meth c A) (h : c_X8_sheet p1 p2 p3 σ = some (r0, τ)) : V p l e rmX8_sheet s m args below meth c 5 A G xY 0 0 (MQ below (QI G xY A r0 τ) args s 0 0 A) σ 0 [(0, .ref (G.2.2.1 0)), (1, .int p1), (2, .int p2), (3, .int p3)] [] := by
  rw [c_X8_sheet] at h
  refine v_aload_n hC dX8_sheet_0 0 rfl ?_
  refine v_iload_n hC dX8_sheet_1 1 rfl ?_
  obtain ⟨r3, s2, hc_1, h⟩ := bd2 h
  refine v_callVR hC xE_ok (n := 1) (As := [.int p1]) (k_X8_sheetAt l hG (hO0) hc_1) (cwV 1 hC.1.2.2.2.2 gX8_sheet_X8_sheetAt rfl rfl rfl (by decide +kernel) ⟨(Nat.le_of_ble_eq_true rfl), (Nat.le_of_ble_eq_true rfl)⟩) hO0 (by decide) rfl rfl rfl (Nat.le_of_ble_eq_true rfl) ⟨Nat.zero_le _, Nat.zero_le _⟩ dX8_sheet_2 rfl ?_
  refine v_wt (fun hv_4 => ?_)
  refine v_astoreR (L' := [(2, .int p2), (3, .int p3), (4, rv G.2.2.1 r3)]) hC dX8_sheet_5 (by decide) [3, 4, 0] rfl ?_
  refine v_aloadR hC dX8_sheet_7 2 rfl ?_
  cases r3 with
  | none =>
    replace h := mo_n h
    refine v_ifnull_t (tgt := 22) hC dX8_sheet_9 (by decide) ?_
    refine v_bipush (v := (-2)) hC dX8_sheet_22 (by decide) ?_
    exact v_iret hC rfl dX8_sheet_24 h
  | some j5 =>
    replace h := mo_s h
    refine v_ifnull_f hC dX8_sheet_9 ?_
    refine V.sub (L' := [(2, .int p2), (3, .int p3), (4, .ref (G.2.2.1 j5))]) [0, 1, 2] rfl ?_
    refine v_iload_n hC dX8_sheet_12 0 rfl ?_
    refine v_iconst (v := (-1)) hC dX8_sheet_13 (by decide) ?_
    refine v_icmp_lt (tgt := 22) hC dX8_sheet_14 (by decide) (fun c_6 => ?_) (fun c_6 => ?_)
    · replace h := ift c_6 h
      refine v_bipush (v := (-2)) hC dX8_sheet_22 (by decide) ?_
      exact v_iret hC rfl dX8_sheet_24 h
    · replace h := ifn c_6 h
      refine v_iload_n hC dX8_sheet_17 0 rfl ?_
      refine v_iconst (v := 2) hC dX8_sheet_18 (by decide) ?_
      refine v_icmp_le (tgt := 25) hC dX8_sheet_19 (by decide) (fun c_7 => ?_) (fun c_7 => ?_)
      · replace h := ift c_7 h
        refine v_iload_n hC dX8_sheet_25 0 rfl ?_
        refine v_iconst (v := (-1)) hC dX8_sheet_26 (by decide) ?_
        refine v_icmp_ne (tgt := 39) hC dX8_sheet_27 (by decide) (fun c_8 => ?_) (fun c_8 => ?_)
        · replace h := ifn c_8 h
          refine v_iload_n hC dX8_sheet_39 1 rfl ?_
          refine v_bipush (v := 40) hC dX8_sheet_40 (by decide) ?_
          refine v_icmp_le (tgt := 48) hC dX8_sheet_42 (by decide) (fun c_9 => ?_) (fun c_9 => ?_)
          · replace h := ift c_9 h
            refine v_iload_n hC dX8_sheet_48 1 rfl ?_
            refine v_if_ge (tgt := 55) hC dX8_sheet_49 (by decide) (fun c_10 => ?_) (fun c_10 => ?_)
            · replace h := ift c_10 h
              refine v_aload hC dX8_sheet_55 2 rfl ?_
              refine v_iload_n hC dX8_sheet_57 0 rfl ?_
              refine v_iload_n hC dX8_sheet_58 1 rfl ?_
              obtain ⟨s12, hc_11, h⟩ := bd1 h
              refine v_callVV hC xE_ok (n := 2) (As := [.int p2, .int p3]) (k_X3_become l hG ((show Ob G xY j5 3 from (rok_sheetAt hG (hO0) hv_4 hc_1) j5 rfl)) hc_11) (cwV 2 hC.1.2.2.2.2 gX8_sheet_X3_become rfl rfl rfl (by decide +kernel) ⟨(Nat.le_of_ble_eq_true rfl), (Nat.le_of_ble_eq_true rfl)⟩) (show Ob G xY j5 3 from (rok_sheetAt hG (hO0) hv_4 hc_1) j5 rfl) (by decide) rfl rfl rfl (Nat.le_of_ble_eq_true rfl) ⟨Nat.zero_le _, Nat.zero_le _⟩ dX8_sheet_59 rfl ?_
              refine v_iconst (v := 1) hC dX8_sheet_62 (by decide) ?_
              exact v_iret hC rfl dX8_sheet_63 h
            · replace h := ifn c_10 h
              refine v_bipush (v := (-14)) hC dX8_sheet_52 (by decide) ?_
              exact v_iret hC rfl dX8_sheet_54 h
          · replace h := ifn c_9 h
            refine v_bipush (v := (-2)) hC dX8_sheet_45 (by decide) ?_
            exact v_iret hC rfl dX8_sheet_47 h
        · replace h := ift c_8 h
          refine v_aload hC dX8_sheet_30 2 rfl ?_
          refine v_iconst (v := (-1)) hC dX8_sheet_32 (by decide) ?_
          refine v_iconst (v := 0) hC dX8_sheet_33 (by decide) ?_
          obtain ⟨s14, hc_13, h⟩ := bd1 h
          refine v_callVV hC xE_ok (n := 2) (As := [.int (-1), .int 0]) (k_X3_become l hG ((show Ob G xY j5 3 from (rok_sheetAt hG (hO0) hv_4 hc_1) j5 rfl)) hc_13) (cwV 2 hC.1.2.2.2.2 gX8_sheet_X3_become rfl rfl rfl (by decide +kernel) ⟨(Nat.le_of_ble_eq_true rfl), (Nat.le_of_ble_eq_true rfl)⟩) (show Ob G xY j5 3 from (rok_sheetAt hG (hO0) hv_4 hc_1) j5 rfl) (by decide) rfl rfl rfl (Nat.le_of_ble_eq_true rfl) ⟨Nat.zero_le _, Nat.zero_le _⟩ dX8_sheet_34 rfl ?_
          refine v_iconst (v := 1) hC dX8_sheet_37 (by decide) ?_
          exact v_iret hC rfl dX8_sheet_38 h
      · replace h := ifn c_7 h
        refine v_bipush (v := (-2)) hC dX8_sheet_22 (by decide) ?_
        exact v_iret hC rfl dX8_sheet_24 h
theorem k_X8_sheet {adK adV : Nat → Nat} {tb : Nat} (l : Launch) {G : WD}  {r0 : Int32} {τ : HS} {p1 : Int32} {p2 : Int32} {p3 : Int32} {σ : HS}  (hG : GX G xY) (hO0 : Ob G xY 0 7) (h : c_X8_sheet p1 p2 p3 σ = some (r0, τ)) : MI (xE adK adV tb) l yX8_sheet wsX8_sheet rmX8_sheet G xY [.ref (G.2.2.1 0), .int p1, .int p2, .int p3] σ r0 τ :=
  MI.of RX8 (by decide) rfl rfl (Nat.le_of_ble_eq_true rfl) rfl rfl (fun p e s m below meth c hC => w_X8_sheet  hG hO0 hC h)
abbrev rmX8_cell : Room := { frames := 2, cells := 0, slots := 0, locals := 43 }
def c_X8_cell (p1 : Int32) (p2 : Int32) (p3 : Int32) (σ : HS) : Option (Int32 × HS) := (bi2 (c_X8_sheetAt p1 σ) (fun r3 s2 => (mo r3 (some ((-2), s2)) (fun j5 => (bi2 (c_X3_isMissing j5 s2) (fun r8 s7 => (if r8 = 0 then (bi2 (c_X3_has j5 p2 s7) (fun r12 s11 => (if r12 = 0 then (some ((-12), s11)) else (bi1 (c_X3_put j5 p2 p3 s11) (fun s15 => (some (1, s15))))))) else (some ((-11), s7)))))))))
set_option maxHeartbeats 4000000 in
set_option maxRecDepth 100000 in
theorem w_X8_cell {adK adV : Nat → Nat} {tb : Nat} {p : Program} {l : Launch} {e : Env} {s : State} {m : MethodId} {args : Array Value} {below : List Frame} {meth : Method} {c : Code} {A : Nat → Prop} {G : WD}  {r0 : Int32} {τ : HS} {p1 : Int32} {p2 : Int32} {p3 : Int32} {σ : HS}  (hG : GX G xY) (hO0 : Ob G xY 0 7) (hC : Cx (xE adK adV tb) G.1 G.2.1 xY cX8_cell 5 (some .int) RX8 wsX8_cell p s m args meth c A) (h : c_X8_cell p1 p2 p3 σ = some (r0, τ)) : V p l e rmX8_cell s m args below meth c 5 A G xY 0 0 (MQ below (QI G xY A r0 τ) args s 0 0 A) σ 0 [(0, .ref (G.2.2.1 0)), (1, .int p1), (2, .int p2), (3, .int p3)] [] := by
  rw [c_X8_cell] at h
  refine v_aload_n hC dX8_cell_0 0 rfl ?_
  refine v_iload_n hC dX8_cell_1 1 rfl ?_
  obtain ⟨r3, s2, hc_1, h⟩ := bd2 h
  refine v_callVR hC xE_ok (n := 1) (As := [.int p1]) (k_X8_sheetAt l hG (hO0) hc_1) (cwV 1 hC.1.2.2.2.2 gX8_cell_X8_sheetAt rfl rfl rfl (by decide +kernel) ⟨(Nat.le_of_ble_eq_true rfl), (Nat.le_of_ble_eq_true rfl)⟩) hO0 (by decide) rfl rfl rfl (Nat.le_of_ble_eq_true rfl) ⟨Nat.zero_le _, Nat.zero_le _⟩ dX8_cell_2 rfl ?_
  refine v_wt (fun hv_4 => ?_)
  refine v_astoreR (L' := [(2, .int p2), (3, .int p3), (4, rv G.2.2.1 r3)]) hC dX8_cell_5 (by decide) [3, 4, 0] rfl ?_
  refine v_aloadR hC dX8_cell_7 2 rfl ?_
  cases r3 with
  | none =>
    replace h := mo_n h
    refine v_ifnonnull_f hC dX8_cell_9 ?_
    refine v_bipush (v := (-2)) hC dX8_cell_12 (by decide) ?_
    exact v_iret hC rfl dX8_cell_14 h
  | some j5 =>
    replace h := mo_s h
    refine v_ifnonnull_t (tgt := 15) hC dX8_cell_9 (by decide) ?_
    refine V.sub (L' := [(2, .int p2), (3, .int p3), (4, .ref (G.2.2.1 j5))]) [0, 1, 2] rfl ?_
    refine v_aload hC dX8_cell_15 2 rfl ?_
    obtain ⟨r8, s7, hc_6, h⟩ := bd2 h
    refine v_callVI hC xE_ok (n := 0) (As := []) (k_X3_isMissing l hG ((show Ob G xY j5 3 from (rok_sheetAt hG (hO0) hv_4 hc_1) j5 rfl)) hc_6) (cwV 0 hC.1.2.2.2.2 gX8_cell_X3_isMissing rfl rfl rfl (by decide +kernel) ⟨(Nat.le_of_ble_eq_true rfl), (Nat.le_of_ble_eq_true rfl)⟩) (show Ob G xY j5 3 from (rok_sheetAt hG (hO0) hv_4 hc_1) j5 rfl) (by decide) rfl rfl rfl (Nat.le_of_ble_eq_true rfl) ⟨Nat.zero_le _, Nat.zero_le _⟩ dX8_cell_17 rfl ?_
    refine v_if_eq (tgt := 26) hC dX8_cell_20 (by decide) (fun c_9 => ?_) (fun c_9 => ?_)
    · replace h := ift c_9 h
      refine v_aload hC dX8_cell_26 2 rfl ?_
      refine v_iload_n hC dX8_cell_28 0 rfl ?_
      obtain ⟨r12, s11, hc_10, h⟩ := bd2 h
      refine v_callVI hC xE_ok (n := 1) (As := [.int p2]) (k_X3_has l hG ((show Ob G xY j5 3 from (rok_sheetAt hG (hO0) hv_4 hc_1) j5 rfl)) hc_10) (cwV 1 hC.1.2.2.2.2 gX8_cell_X3_has rfl rfl rfl (by decide +kernel) ⟨(Nat.le_of_ble_eq_true rfl), (Nat.le_of_ble_eq_true rfl)⟩) (show Ob G xY j5 3 from (rok_sheetAt hG (hO0) hv_4 hc_1) j5 rfl) (by decide) rfl rfl rfl (Nat.le_of_ble_eq_true rfl) ⟨Nat.zero_le _, Nat.zero_le _⟩ dX8_cell_29 rfl ?_
      refine v_if_ne (tgt := 38) hC dX8_cell_32 (by decide) (fun c_13 => ?_) (fun c_13 => ?_)
      · replace h := ifn c_13 h
        refine v_aload hC dX8_cell_38 2 rfl ?_
        refine v_iload_n hC dX8_cell_40 0 rfl ?_
        refine v_iload_n hC dX8_cell_41 1 rfl ?_
        obtain ⟨s15, hc_14, h⟩ := bd1 h
        refine v_callVV hC xE_ok (n := 2) (As := [.int p2, .int p3]) (k_X3_put l hG ((show Ob G xY j5 3 from (rok_sheetAt hG (hO0) hv_4 hc_1) j5 rfl)) hc_14) (cwV 2 hC.1.2.2.2.2 gX8_cell_X3_put rfl rfl rfl (by decide +kernel) ⟨(Nat.le_of_ble_eq_true rfl), (Nat.le_of_ble_eq_true rfl)⟩) (show Ob G xY j5 3 from (rok_sheetAt hG (hO0) hv_4 hc_1) j5 rfl) (by decide) rfl rfl rfl (Nat.le_of_ble_eq_true rfl) ⟨Nat.zero_le _, Nat.zero_le _⟩ dX8_cell_42 rfl ?_
        refine v_iconst (v := 1) hC dX8_cell_45 (by decide) ?_
        exact v_iret hC rfl dX8_cell_46 h
      · replace h := ift c_13 h
        refine v_bipush (v := (-12)) hC dX8_cell_35 (by decide) ?_
        exact v_iret hC rfl dX8_cell_37 h
    · replace h := ifn c_9 h
      refine v_bipush (v := (-11)) hC dX8_cell_23 (by decide) ?_
      exact v_iret hC rfl dX8_cell_25 h
theorem k_X8_cell {adK adV : Nat → Nat} {tb : Nat} (l : Launch) {G : WD}  {r0 : Int32} {τ : HS} {p1 : Int32} {p2 : Int32} {p3 : Int32} {σ : HS}  (hG : GX G xY) (hO0 : Ob G xY 0 7) (h : c_X8_cell p1 p2 p3 σ = some (r0, τ)) : MI (xE adK adV tb) l yX8_cell wsX8_cell rmX8_cell G xY [.ref (G.2.2.1 0), .int p1, .int p2, .int p3] σ r0 τ :=
  MI.of RX8 (by decide) rfl rfl (Nat.le_of_ble_eq_true rfl) rfl rfl (fun p e s m below meth c hC => w_X8_cell  hG hO0 hC h)
abbrev rmX8_copy : Room := { frames := 1, cells := 0, slots := 0, locals := 60 }
def c_X8_copy (p1 : Int32) (p2 : Int32) (p3 : Int32) (p4 : Int32) (p5 : Int32) (σ : HS) : Option (Int32 × HS) := (bi2 (c_X8_sheetAt p1 σ) (fun r3 s2 => (bi2 (c_X8_sheetAt p3 s2) (fun r7 s6 => (mo r3 (some ((-2), s6)) (fun j9 => (mo r7 (some ((-2), s6)) (fun j10 => (bi2 (c_X3_isMissing j9 s6) (fun r13 s12 => (if r13 = 0 then (bi2 (c_X3_isMissing j10 s12) (fun r17 s16 => (if r17 = 0 then (if (gI s16 j9 1) = (gI s16 j10 1) then (bi2 (c_X3_hasAll j9 p2 p5 s16) (fun r22 s21 => (if r22 = 0 then (some ((-12), s21)) else (bi2 (c_X3_hasAll j10 p4 p5 s21) (fun r26 s25 => (if r26 = 0 then (some ((-12), s25)) else (if cpo p2 p4 p5 40 40 = true then (lt (sA s25 (j10 + 1) (va_cpy (gI s25 (j9 + 1)) (gI s25 (j10 + 1)) (ix p2) (ix p4) (ix p5))) (fun s29 => (some (p5, s29)))) else none))))))) else (some ((-13), s16))) else (some ((-11), s16))))) else (some ((-11), s12)))))))))))))
set_option maxHeartbeats 4000000 in
set_option maxRecDepth 100000 in
theorem w_X8_copy {adK adV : Nat → Nat} {tb : Nat} {p : Program} {l : Launch} {e : Env} {s : State} {m : MethodId} {args : Array Value} {below : List Frame} {meth : Method} {c : Code} {A : Nat → Prop} {G : WD}  {r0 : Int32} {τ : HS} {p1 : Int32} {p2 : Int32} {p3 : Int32} {p4 : Int32} {p5 : Int32} {σ : HS}  (hG : GX G xY) (hO0 : Ob G xY 0 7) (hC : Cx (xE adK adV tb) G.1 G.2.1 xY cX8_copy 8 (some .int) RX8 wsX8_copy p s m args meth c A) (h : c_X8_copy p1 p2 p3 p4 p5 σ = some (r0, τ)) : V p l e rmX8_copy s m args below meth c 8 A G xY 0 0 (MQ below (QI G xY A r0 τ) args s 0 0 A) σ 0 [(0, .ref (G.2.2.1 0)), (1, .int p1), (2, .int p2), (3, .int p3), (4, .int p4), (5, .int p5)] [] := by
  rw [c_X8_copy] at h
  refine v_aload_n hC dX8_copy_0 0 rfl ?_
  refine v_iload_n hC dX8_copy_1 1 rfl ?_
  obtain ⟨r3, s2, hc_1, h⟩ := bd2 h
  refine v_callVR hC xE_ok (n := 1) (As := [.int p1]) (k_X8_sheetAt l hG (hO0) hc_1) (cwV 1 hC.1.2.2.2.2 gX8_copy_X8_sheetAt rfl rfl rfl (by decide +kernel) ⟨(Nat.le_of_ble_eq_true rfl), (Nat.le_of_ble_eq_true rfl)⟩) hO0 (by decide) rfl rfl rfl (Nat.le_of_ble_eq_true rfl) ⟨Nat.zero_le _, Nat.zero_le _⟩ dX8_copy_2 rfl ?_
  refine v_wt (fun hv_4 => ?_)
  refine v_astoreR (L' := [(0, .ref (G.2.2.1 0)), (2, .int p2), (3, .int p3), (4, .int p4), (5, .int p5), (6, rv G.2.2.1 r3)]) hC dX8_copy_5 (by decide) [1, 3, 4, 5, 6, 0] rfl ?_
  refine v_aload_n hC dX8_copy_7 0 rfl ?_
  refine v_iload_n hC dX8_copy_8 2 rfl ?_
  obtain ⟨r7, s6, hc_5, h⟩ := bd2 h
  refine v_callVR hC xE_ok (n := 1) (As := [.int p3]) (k_X8_sheetAt l hG (hO0) hc_5) (cwV 1 hC.1.2.2.2.2 gX8_copy_X8_sheetAt rfl rfl rfl (by decide +kernel) ⟨(Nat.le_of_ble_eq_true rfl), (Nat.le_of_ble_eq_true rfl)⟩) hO0 (by decide) rfl rfl rfl (Nat.le_of_ble_eq_true rfl) ⟨Nat.zero_le _, Nat.zero_le _⟩ dX8_copy_9 rfl ?_
  refine v_wt (fun hv_8 => ?_)
  refine v_astoreR (L' := [(2, .int p2), (4, .int p4), (5, .int p5), (6, rv G.2.2.1 r3), (7, rv G.2.2.1 r7)]) hC dX8_copy_12 (by decide) [2, 4, 5, 6, 0] (by simp [lv_pick, rv_cat]) ?_
  refine v_aloadR hC dX8_copy_14 3 rfl ?_
  cases r3 with
  | none =>
    replace h := mo_n h
    refine v_ifnull_t (tgt := 24) hC dX8_copy_16 (by decide) ?_
    refine v_bipush (v := (-2)) hC dX8_copy_24 (by decide) ?_
    exact v_iret hC rfl dX8_copy_26 h
  | some j9 =>
    replace h := mo_s h
    refine v_ifnull_f hC dX8_copy_16 ?_
    refine V.sub (L' := [(2, .int p2), (4, .int p4), (5, .int p5), (6, .ref (G.2.2.1 j9)), (7, rv G.2.2.1 r7)]) [0, 1, 2, 3, 4] rfl ?_
    refine v_aloadR hC dX8_copy_19 4 rfl ?_
    cases r7 with
    | none =>
      replace h := mo_n h
      refine v_ifnonnull_f hC dX8_copy_21 ?_
      refine v_bipush (v := (-2)) hC dX8_copy_24 (by decide) ?_
      exact v_iret hC rfl dX8_copy_26 h
    | some j10 =>
      replace h := mo_s h
      refine v_ifnonnull_t (tgt := 27) hC dX8_copy_21 (by decide) ?_
      refine V.sub (L' := [(2, .int p2), (4, .int p4), (5, .int p5), (6, .ref (G.2.2.1 j9)), (7, .ref (G.2.2.1 j10))]) [0, 1, 2, 3, 4] rfl ?_
      refine v_aload hC dX8_copy_27 3 rfl ?_
      obtain ⟨r13, s12, hc_11, h⟩ := bd2 h
      refine v_callVI hC xE_ok (n := 0) (As := []) (k_X3_isMissing l hG ((show Ob G xY j9 3 from (rok_sheetAt hG (hO0) hv_4 hc_1) j9 rfl)) hc_11) (cwV 0 hC.1.2.2.2.2 gX8_copy_X3_isMissing rfl rfl rfl (by decide +kernel) ⟨(Nat.le_of_ble_eq_true rfl), (Nat.le_of_ble_eq_true rfl)⟩) (show Ob G xY j9 3 from (rok_sheetAt hG (hO0) hv_4 hc_1) j9 rfl) (by decide) rfl rfl rfl (Nat.le_of_ble_eq_true rfl) ⟨Nat.zero_le _, Nat.zero_le _⟩ dX8_copy_29 rfl ?_
      refine v_if_ne (tgt := 43) hC dX8_copy_32 (by decide) (fun c_14 => ?_) (fun c_14 => ?_)
      · replace h := ifn c_14 h
        refine v_bipush (v := (-11)) hC dX8_copy_43 (by decide) ?_
        exact v_iret hC rfl dX8_copy_45 h
      · replace h := ift c_14 h
        refine v_aload hC dX8_copy_35 4 rfl ?_
        obtain ⟨r17, s16, hc_15, h⟩ := bd2 h
        refine v_callVI hC xE_ok (n := 0) (As := []) (k_X3_isMissing l hG ((show Ob G xY j10 3 from (rok_sheetAt hG (hO0) hv_8 hc_5) j10 rfl)) hc_15) (cwV 0 hC.1.2.2.2.2 gX8_copy_X3_isMissing rfl rfl rfl (by decide +kernel) ⟨(Nat.le_of_ble_eq_true rfl), (Nat.le_of_ble_eq_true rfl)⟩) (show Ob G xY j10 3 from (rok_sheetAt hG (hO0) hv_8 hc_5) j10 rfl) (by decide) rfl rfl rfl (Nat.le_of_ble_eq_true rfl) ⟨Nat.zero_le _, Nat.zero_le _⟩ dX8_copy_37 rfl ?_
        refine v_if_eq (tgt := 46) hC dX8_copy_40 (by decide) (fun c_18 => ?_) (fun c_18 => ?_)
        · replace h := ift c_18 h
          refine v_aload hC dX8_copy_46 3 rfl ?_
          refine v_getN (C := RX3) (T := TX3) (N := 3) (ci := 3) (k := 1) (v := .int (gI s16 j9 1)) hC (show Ob G xY j9 3 from (rok_sheetAt hG (hO0) hv_4 hc_1) j9 rfl) hi_X8_copy_X3 rfl (by decide) (by decide) rfl rfl (xE_nf_X8_300 hC.2.2.2.2.2) dX8_copy_48 rfl ?_
          refine v_aload hC dX8_copy_51 4 rfl ?_
          refine v_getN (C := RX3) (T := TX3) (N := 3) (ci := 3) (k := 1) (v := .int (gI s16 j10 1)) hC (show Ob G xY j10 3 from (rok_sheetAt hG (hO0) hv_8 hc_5) j10 rfl) hi_X8_copy_X3 rfl (by decide) (by decide) rfl rfl (xE_nf_X8_300 hC.2.2.2.2.2) dX8_copy_53 rfl ?_
          refine v_icmp_eq (tgt := 62) hC dX8_copy_56 (by decide) (fun c_19 => ?_) (fun c_19 => ?_)
          · replace h := ift c_19 h
            refine v_aload hC dX8_copy_62 3 rfl ?_
            refine v_iload_n hC dX8_copy_64 0 rfl ?_
            refine v_iload hC dX8_copy_65 2 rfl ?_
            obtain ⟨r22, s21, hc_20, h⟩ := bd2 h
            refine v_callVI hC xE_ok (n := 2) (As := [.int p2, .int p5]) (k_X3_hasAll l hG ((show Ob G xY j9 3 from (rok_sheetAt hG (hO0) hv_4 hc_1) j9 rfl)) hc_20) (cwV 2 hC.1.2.2.2.2 gX8_copy_X3_hasAll rfl rfl rfl (by decide +kernel) ⟨(Nat.le_of_ble_eq_true rfl), (Nat.le_of_ble_eq_true rfl)⟩) (show Ob G xY j9 3 from (rok_sheetAt hG (hO0) hv_4 hc_1) j9 rfl) (by decide) rfl rfl rfl (Nat.le_of_ble_eq_true rfl) ⟨Nat.zero_le _, Nat.zero_le _⟩ dX8_copy_67 rfl ?_
            refine v_if_eq (tgt := 85) hC dX8_copy_70 (by decide) (fun c_23 => ?_) (fun c_23 => ?_)
            · replace h := ift c_23 h
              refine v_bipush (v := (-12)) hC dX8_copy_85 (by decide) ?_
              exact v_iret hC rfl dX8_copy_87 h
            · replace h := ifn c_23 h
              refine v_aload hC dX8_copy_73 4 rfl ?_
              refine v_iload hC dX8_copy_75 1 rfl ?_
              refine v_iload hC dX8_copy_77 2 rfl ?_
              obtain ⟨r26, s25, hc_24, h⟩ := bd2 h
              refine v_callVI hC xE_ok (n := 2) (As := [.int p4, .int p5]) (k_X3_hasAll l hG ((show Ob G xY j10 3 from (rok_sheetAt hG (hO0) hv_8 hc_5) j10 rfl)) hc_24) (cwV 2 hC.1.2.2.2.2 gX8_copy_X3_hasAll rfl rfl rfl (by decide +kernel) ⟨(Nat.le_of_ble_eq_true rfl), (Nat.le_of_ble_eq_true rfl)⟩) (show Ob G xY j10 3 from (rok_sheetAt hG (hO0) hv_8 hc_5) j10 rfl) (by decide) rfl rfl rfl (Nat.le_of_ble_eq_true rfl) ⟨Nat.zero_le _, Nat.zero_le _⟩ dX8_copy_79 rfl ?_
              refine v_if_ne (tgt := 88) hC dX8_copy_82 (by decide) (fun c_27 => ?_) (fun c_27 => ?_)
              · replace h := ifn c_27 h
                refine v_aload hC dX8_copy_88 3 rfl ?_
                refine v_getN (C := RX3) (T := TX3) (N := 3) (ci := 3) (k := 0) (v := .ref (G.2.2.1 (j9 + 1))) hC (show Ob G xY j9 3 from (rok_sheetAt hG (hO0) hv_4 hc_1) j9 rfl) hi_X8_copy_X3 rfl (by decide) (by decide) rfl rfl (xE_nf_X8_307 hC.2.2.2.2.2) dX8_copy_90 rfl ?_
                refine v_iload_n hC dX8_copy_93 0 rfl ?_
                refine v_aload hC dX8_copy_94 4 rfl ?_
                refine v_getN (C := RX3) (T := TX3) (N := 3) (ci := 3) (k := 0) (v := .ref (G.2.2.1 (j10 + 1))) hC (show Ob G xY j10 3 from (rok_sheetAt hG (hO0) hv_8 hc_5) j10 rfl) hi_X8_copy_X3 rfl (by decide) (by decide) rfl rfl (xE_nf_X8_307 hC.2.2.2.2.2) dX8_copy_96 rfl ?_
                refine v_iload hC dX8_copy_99 1 rfl ?_
                refine v_iload hC dX8_copy_101 2 rfl ?_
                obtain ⟨g_28, h⟩ := gd h
                refine v_copy hC (obX_3_0 hG (show Ob G xY j9 3 from (rok_sheetAt hG (hO0) hv_4 hc_1) j9 rfl)).1 (obX_3_0 hG (show Ob G xY j10 3 from (rok_sheetAt hG (hO0) hv_8 hc_5) j10 rfl)).1 (obX_3_0 hG (show Ob G xY j9 3 from (rok_sheetAt hG (hO0) hv_4 hc_1) j9 rfl)).2 (obX_3_0 hG (show Ob G xY j10 3 from (rok_sheetAt hG (hO0) hv_8 hc_5) j10 rfl)).2 (t0 := 0) rfl ac310_X8_copy.1 ac310_X8_copy.2.1 ac310_X8_copy.2.2.1 ac310_X8_copy.2.2.2 (cpo_s g_28).1 (cpo_s g_28).2.1 (cpo_s g_28).2.2.1 (cpo_s g_28).2.2.2.1 (cpo_s g_28).2.2.2.2 rfl (Nat.le_of_ble_eq_true rfl) (Nat.le_of_ble_eq_true rfl) dX8_copy_103 ?_
                obtain ⟨s29, e30, h⟩ := ld h
                refine V.eq e30 ?_
                refine v_iload hC dX8_copy_106 2 rfl ?_
                exact v_iret hC rfl dX8_copy_108 h
              · replace h := ift c_27 h
                refine v_bipush (v := (-12)) hC dX8_copy_85 (by decide) ?_
                exact v_iret hC rfl dX8_copy_87 h
          · replace h := ifn c_19 h
            refine v_bipush (v := (-13)) hC dX8_copy_59 (by decide) ?_
            exact v_iret hC rfl dX8_copy_61 h
        · replace h := ifn c_18 h
          refine v_bipush (v := (-11)) hC dX8_copy_43 (by decide) ?_
          exact v_iret hC rfl dX8_copy_45 h
theorem k_X8_copy {adK adV : Nat → Nat} {tb : Nat} (l : Launch) {G : WD}  {r0 : Int32} {τ : HS} {p1 : Int32} {p2 : Int32} {p3 : Int32} {p4 : Int32} {p5 : Int32} {σ : HS}  (hG : GX G xY) (hO0 : Ob G xY 0 7) (h : c_X8_copy p1 p2 p3 p4 p5 σ = some (r0, τ)) : MI (xE adK adV tb) l yX8_copy wsX8_copy rmX8_copy G xY [.ref (G.2.2.1 0), .int p1, .int p2, .int p3, .int p4, .int p5] σ r0 τ :=
  MI.of RX8 (by decide) rfl rfl (Nat.le_of_ble_eq_true rfl) rfl rfl (fun p e s m below meth c hC => w_X8_copy  hG hO0 hC h)
abbrev rmX8_taken : Room := { frames := 2, cells := 0, slots := 0, locals := 43 }
def c_X8_taken (p1 : Int32) (p2 : Int32) (σ : HS) : Option (Int32 × HS) := (bi2 (c_X1_isKind p2 σ) (fun r3 s2 => (if r3 = 0 then (some ((-2), s2)) else (bi2 (c_X8_planAt p1 s2) (fun r7 s6 => (mo r7 (some ((-11), s6)) (fun j9 => (bi2 (c_X1_isTakenFor j9 p2 s6) (fun r12 s11 => (if r12 = 0 then (some ((-13), s11)) else (some ((gI s11 j9 1), s11))))))))))))
set_option maxHeartbeats 4000000 in
set_option maxRecDepth 100000 in
theorem w_X8_taken {adK adV : Nat → Nat} {tb : Nat} {p : Program} {l : Launch} {e : Env} {s : State} {m : MethodId} {args : Array Value} {below : List Frame} {meth : Method} {c : Code} {A : Nat → Prop} {G : WD}  {r0 : Int32} {τ : HS} {p1 : Int32} {p2 : Int32} {σ : HS}  (hG : GX G xY) (hO0 : Ob G xY 0 7) (hC : Cx (xE adK adV tb) G.1 G.2.1 xY cX8_taken 4 (some .int) RX8 wsX8_taken p s m args meth c A) (h : c_X8_taken p1 p2 σ = some (r0, τ)) : V p l e rmX8_taken s m args below meth c 4 A G xY 0 0 (MQ below (QI G xY A r0 τ) args s 0 0 A) σ 0 [(0, .ref (G.2.2.1 0)), (1, .int p1), (2, .int p2)] [] := by
  rw [c_X8_taken] at h
  refine v_iload_n hC dX8_taken_0 2 rfl ?_
  obtain ⟨r3, s2, hc_1, h⟩ := bd2 h
  refine v_callSI hC xE_ok (n := 1) (As := [.int p2]) (k_X1_isKind l hG hc_1) (va_cwS 1 hC.1.2.2.2.2 gX8_taken_X1_isKind rfl rfl rfl (by decide +kernel) ⟨(Nat.le_of_ble_eq_true rfl), (Nat.le_of_ble_eq_true rfl)⟩) rfl (Nat.le_of_ble_eq_true rfl) ⟨Nat.zero_le _, Nat.zero_le _⟩ dX8_taken_1 rfl ?_
  refine v_if_ne (tgt := 10) hC dX8_taken_4 (by decide) (fun c_4 => ?_) (fun c_4 => ?_)
  · replace h := ifn c_4 h
    refine v_aload_n hC dX8_taken_10 0 rfl ?_
    refine v_iload_n hC dX8_taken_11 1 rfl ?_
    obtain ⟨r7, s6, hc_5, h⟩ := bd2 h
    refine v_callVR hC xE_ok (n := 1) (As := [.int p1]) (k_X8_planAt l hG (hO0) hc_5) (cwV 1 hC.1.2.2.2.2 gX8_taken_X8_planAt rfl rfl rfl (by decide +kernel) ⟨(Nat.le_of_ble_eq_true rfl), (Nat.le_of_ble_eq_true rfl)⟩) hO0 (by decide) rfl rfl rfl (Nat.le_of_ble_eq_true rfl) ⟨Nat.zero_le _, Nat.zero_le _⟩ dX8_taken_12 rfl ?_
    refine v_wt (fun hv_8 => ?_)
    refine v_astore_nR (L' := [(2, .int p2), (3, rv G.2.2.1 r7)]) hC dX8_taken_15 (by decide) [3, 0] rfl ?_
    refine v_aload_nR hC dX8_taken_16 1 rfl ?_
    cases r7 with
    | none =>
      replace h := mo_n h
      refine v_ifnonnull_f hC dX8_taken_17 ?_
      refine v_bipush (v := (-11)) hC dX8_taken_20 (by decide) ?_
      exact v_iret hC rfl dX8_taken_22 h
    | some j9 =>
      replace h := mo_s h
      refine v_ifnonnull_t (tgt := 23) hC dX8_taken_17 (by decide) ?_
      refine V.sub (L' := [(2, .int p2), (3, .ref (G.2.2.1 j9))]) [0, 1] rfl ?_
      refine v_aload_n hC dX8_taken_23 1 rfl ?_
      refine v_iload_n hC dX8_taken_24 0 rfl ?_
      obtain ⟨r12, s11, hc_10, h⟩ := bd2 h
      refine v_callVI hC xE_ok (n := 1) (As := [.int p2]) (k_X1_isTakenFor l hG ((show Ob G xY j9 1 from (rok_planAt hG (hO0) hv_8 hc_5) j9 rfl)) hc_10) (cwV 1 hC.1.2.2.2.2 gX8_taken_X1_isTakenFor rfl rfl rfl (by decide +kernel) ⟨(Nat.le_of_ble_eq_true rfl), (Nat.le_of_ble_eq_true rfl)⟩) (show Ob G xY j9 1 from (rok_planAt hG (hO0) hv_8 hc_5) j9 rfl) (by decide) rfl rfl rfl (Nat.le_of_ble_eq_true rfl) ⟨Nat.zero_le _, Nat.zero_le _⟩ dX8_taken_25 rfl ?_
      refine v_if_eq (tgt := 38) hC dX8_taken_28 (by decide) (fun c_13 => ?_) (fun c_13 => ?_)
      · replace h := ift c_13 h
        refine v_bipush (v := (-13)) hC dX8_taken_38 (by decide) ?_
        exact v_iret hC rfl dX8_taken_40 h
      · replace h := ifn c_13 h
        refine v_aload_n hC dX8_taken_31 1 rfl ?_
        refine v_getN (C := RX1) (T := TX1) (N := 3) (ci := 1) (k := 1) (v := .int (gI s11 j9 1)) hC (show Ob G xY j9 1 from (rok_planAt hG (hO0) hv_8 hc_5) j9 rfl) hi_X8_taken_X1 rfl (by decide) (by decide) rfl rfl (xE_nf_X8_322 hC.2.2.2.2.2) dX8_taken_32 rfl ?_
        refine v_goto (tgt := 40) hC dX8_taken_35 (by decide) ?_
        exact v_iret hC rfl dX8_taken_40 h
  · replace h := ift c_4 h
    refine v_bipush (v := (-2)) hC dX8_taken_7 (by decide) ?_
    exact v_iret hC rfl dX8_taken_9 h
theorem k_X8_taken {adK adV : Nat → Nat} {tb : Nat} (l : Launch) {G : WD}  {r0 : Int32} {τ : HS} {p1 : Int32} {p2 : Int32} {σ : HS}  (hG : GX G xY) (hO0 : Ob G xY 0 7) (h : c_X8_taken p1 p2 σ = some (r0, τ)) : MI (xE adK adV tb) l yX8_taken wsX8_taken rmX8_taken G xY [.ref (G.2.2.1 0), .int p1, .int p2] σ r0 τ :=
  MI.of RX8 (by decide) rfl rfl (Nat.le_of_ble_eq_true rfl) rfl rfl (fun p e s m below meth c hC => w_X8_taken  hG hO0 hC h)
