/-! THE CLASS'S CONSTRUCTOR, from its string on -/
abbrev rmX8_init : Room := { frames := 160, cells := 74, slots := 1824, locals := 7300 }
theorem hi_X8_init_X8 : ∀ w ∈ u_ws RX8 TX8 20, w ∈ wsX8_init := by decide +kernel
theorem xf61_X8_init : Cond.fieldLink RX8 61 RX8 (TX8 13).2.1 (TX8 13).2.2.1 ∈ wsX8_init := by decide +kernel
theorem xf68_X8_init : Cond.fieldLink RX8 68 RX8 (TX8 14).2.1 (TX8 14).2.2.1 ∈ wsX8_init := by decide +kernel
theorem xf51_X8_init : Cond.fieldLink RX8 51 RX8 (TX8 11).2.1 (TX8 11).2.2.1 ∈ wsX8_init := by decide +kernel
theorem xf55_X8_init : Cond.fieldLink RX8 55 RX8 (TX8 12).2.1 (TX8 12).2.2.1 ∈ wsX8_init := by decide +kernel
theorem xf10_X8_init : Cond.fieldLink RX8 10 RX8 (TX8 0).2.1 (TX8 0).2.2.1 ∈ wsX8_init := by decide +kernel
theorem xf74_X8_init : Cond.fieldLink RX8 74 RX8 (TX8 15).2.1 (TX8 15).2.2.1 ∈ wsX8_init := by decide +kernel
theorem xf39_X8_init : Cond.fieldLink RX8 39 RX8 (TX8 9).2.1 (TX8 9).2.2.1 ∈ wsX8_init := by decide +kernel
/-- what the constructor leaves -/
def QN (D : va_G) (cA : Nat → ClassId) (A : Nat → Prop) (h0 : Nat) (τ : HS) : Array Value → State → Outcome → State → Prop := va_Qv (fun u : (Nat → Nat) × List Nat => u.1 0 = h0 ∧ XI (D, cA, u.1, u.2, []) τ) (fun u t => wH (D, cA, u.1, u.2, []) xY A τ t.heap ∧ wK (D, cA, u.1, u.2, []) xY t) A
def c_X8_init_280 (σ : HS) : Option HS := mr (gR σ 11 (ix 0)) (fun j => bi2 (c_X2_readText 12 j σ) (fun _ s3 => bi1 (c_X5_clear 12 s3) (fun s4 => lt (sI s4 0 12 1) (fun s5 => some s5))))
def c_X8_init_252 : Nat → Int32 → HS → Option HS
  | 0, _, _ => none
  | n + 1, x1, σ => if sLn 12 ≤ x1 then c_X8_init_280 σ else if sIn 12 x1 = true then bi1 (c_X5_add 12 (sCh 12 (ix x1)) σ) (fun s => c_X8_init_252 n (x1 + 1) s) else none
set_option maxHeartbeats 4000000 in
set_option maxRecDepth 100000 in
theorem w_X8_init_280 {adK adV : Nat → Nat} {tb : Nat} {p : Program} {l : Launch} {e : Env} {s : State} {m : MethodId} {args : Array Value} {below : List Frame} {meth : Method} {c : Code} {A : Nat → Prop} {D : va_G} {cA : Nat → ClassId} {ad : Nat → Nat} {ids : List Nat} {h0 : Nat} {τ : HS} {L : List (Nat × Value)} (hG : GX (D, cA, ad, ids, []) xY) (hO0 : Ob (D, cA, ad, ids, []) xY 0 7) (hC : Cx (xE adK adV tb) D cA xY cX8_init 2 none RX8 wsX8_init p s m args meth c A) (ha : ad 0 = h0) (hX : XI (D, cA, ad, ids, []) τ) (σ : HS) (h : c_X8_init_280 σ = some τ) : V p l e rmX8_init s m args below meth c 2 A (D, cA, ad, ids, []) xY 74 1824 (MQ below (QN D cA A h0 τ) args s 74 1824 A) σ 280 ((0, .ref (ad 0)) :: L) [] := by
  rw [c_X8_init_280] at h
  refine v_aload_n hC dX8_init_280 0 rfl ?_
  refine v_get (G := (D, cA, ad, ids, [])) (C := RX8) (T := TX8) (N := 20) (ci := 7) (k := 14) (v := .ref (ad 14)) hC hO0 hi_X8_init_X8 rfl (by decide) (by decide) rfl rfl xf68_X8_init dX8_init_281 rfl ?_
  refine v_aload_n hC dX8_init_284 0 rfl ?_
  refine v_get (G := (D, cA, ad, ids, [])) (C := RX8) (T := TX8) (N := 20) (ci := 7) (k := 13) (v := .ref (ad 12)) hC hO0 hi_X8_init_X8 rfl (by decide) (by decide) rfl rfl xf61_X8_init dX8_init_285 rfl ?_
  refine v_aload_n hC dX8_init_288 0 rfl ?_
  refine v_get (G := (D, cA, ad, ids, [])) (C := RX8) (T := TX8) (N := 20) (ci := 7) (k := 11) (v := .ref (ad 11)) hC hO0 hi_X8_init_X8 rfl (by decide) (by decide) rfl rfl xf51_X8_init dX8_init_289 rfl ?_
  refine v_iconst (v := 0) hC dX8_init_292 (by decide) ?_
  refine v_wt (fun hw_3 => ?_)
  refine v_aald (G := (D, cA, ad, ids, [])) hC (obX_7_11 hG hO0).1 (by decide) (obX_7_11 hG hO0).2 (t0 := 4) rfl (by decide) dX8_init_293 ?_
  obtain ⟨j4, hj5, h⟩ := mrd h
  rw [hj5]
  rw [rv_s]
  obtain ⟨r8, s7, hc_6, h⟩ := bd2 h
  refine v_callVI (G := (D, cA, ad, ids, [])) hC xE_ok (n := 2) (As := [.ref (ad 12), .ref (ad j4)]) (k_X2_readText l hG ((obX_7_14 hG hO0)) ((obX_7_13 hG hO0)) ((show Ob (D, cA, ad, ids, []) xY j4 6 from (fun j hj => wt_ob hw_3 (obX_7_11 hG hO0).1 hj) j4 hj5)) hc_6) (cwV 2 hC.1.2.2.2.2 gX8_init_X2_readText rfl rfl rfl (by decide +kernel) ⟨(Nat.le_of_ble_eq_true rfl), (Nat.le_of_ble_eq_true rfl)⟩) (obX_7_14 hG hO0) (by decide) rfl rfl rfl (Nat.le_of_ble_eq_true rfl) ⟨Nat.le_of_ble_eq_true rfl, Nat.le_of_ble_eq_true rfl⟩ dX8_init_294 rfl ?_
  refine v_pop hC dX8_init_297 rfl ?_
  refine v_aload_n hC dX8_init_298 0 rfl ?_
  refine v_get (G := (D, cA, ad, ids, [])) (C := RX8) (T := TX8) (N := 20) (ci := 7) (k := 13) (v := .ref (ad 12)) hC hO0 hi_X8_init_X8 rfl (by decide) (by decide) rfl rfl xf61_X8_init dX8_init_299 rfl ?_
  obtain ⟨s10, hc_9, h⟩ := bd1 h
  refine v_callVV (G := (D, cA, ad, ids, [])) hC xE_ok (n := 0) (As := []) (k_X5_clear l hG ((obX_7_13 hG hO0)) hc_9) (cwV 0 hC.1.2.2.2.2 gX8_init_X5_clear rfl rfl rfl (by decide +kernel) ⟨(Nat.le_of_ble_eq_true rfl), (Nat.le_of_ble_eq_true rfl)⟩) (obX_7_13 hG hO0) (by decide) rfl rfl rfl (Nat.le_of_ble_eq_true rfl) ⟨Nat.le_of_ble_eq_true rfl, Nat.le_of_ble_eq_true rfl⟩ dX8_init_302 rfl ?_
  refine v_aload_n hC dX8_init_305 0 rfl ?_
  refine v_iconst (v := 1) hC dX8_init_306 (by decide) ?_
  refine v_putI (G := (D, cA, ad, ids, [])) (C := RX8) (T := TX8) (N := 20) (ci := 7) (k := 12) (ty := .int) hC hO0 hi_X8_init_X8 rfl (by decide) (by decide) rfl rfl tyX8_ok nmX8 xf55_X8_init rfl rfl rfl rfl rfl dX8_init_307 ?_
  obtain ⟨s11, e11, h⟩ := ld h
  refine V.eq e11 ?_
  cases h
  exact v_vretG (ad, ids) hC rfl dX8_init_310 ⟨ha, hX⟩ (fun t hW hK => ⟨hW, hK⟩)
set_option maxHeartbeats 4000000 in
set_option maxRecDepth 100000 in
theorem w_X8_init_252 {adK adV : Nat → Nat} {tb : Nat} {p : Program} {l : Launch} {e : Env} {s : State} {m : MethodId} {args : Array Value} {below : List Frame} {meth : Method} {c : Code} {A : Nat → Prop} {D : va_G} {cA : Nat → ClassId} {ad : Nat → Nat} {ids : List Nat} {h0 : Nat} {τ : HS} (hG : GX (D, cA, ad, ids, []) xY) (hO0 : Ob (D, cA, ad, ids, []) xY 0 7) (hC : Cx (xE adK adV tb) D cA xY cX8_init 2 none RX8 wsX8_init p s m args meth c A) (ha : ad 0 = h0) (hX : XI (D, cA, ad, ids, []) τ) : ∀ (n : Nat) (x1 : Int32) (σ : HS), c_X8_init_252 n x1 σ = some τ → V p l e rmX8_init s m args below meth c 2 A (D, cA, ad, ids, []) xY 74 1824 (MQ below (QN D cA A h0 τ) args s 74 1824 A) σ 252 [(0, .ref (ad 0)), (1, .int x1)] [] := by
  intro n
  induction n with
  | zero => intro x1 σ h; exact nof h
  | succ n ih =>
    intro x1 σ h
    rw [c_X8_init_252] at h
    refine v_iload_n hC dX8_init_252 1 rfl ?_
    refine v_ldcS hC (xE_str12 hC.2.2.2.2.2) dX8_init_253 ?_
    refine v_callSI_str (G := (D, cA, ad, ids, [])) (w := 12) hC xE_ok (n := 0) (As := []) (kJ_length l (by decide)) (cwV 0 hC.1.2.2.2.2 gX8_init_J0_length_8abf5 rfl rfl rfl (by decide +kernel) ⟨(Nat.le_of_ble_eq_true rfl), (Nat.le_of_ble_eq_true rfl)⟩) (by decide) rfl (Nat.le_of_ble_eq_true rfl) ⟨Nat.le_of_ble_eq_true rfl, Nat.le_of_ble_eq_true rfl⟩ dX8_init_255 rfl ?_
    refine v_icmp_ge (tgt := 280) hC dX8_init_258 (by decide) (fun c_1 => ?_) (fun c_1 => ?_)
    · replace h := ift c_1 h
      exact w_X8_init_280 hG hO0 hC ha hX σ h
    · replace h := ifn c_1 h
      obtain ⟨g_1, h⟩ := gd h
      refine v_aload_n hC dX8_init_261 0 rfl ?_
      refine v_get (G := (D, cA, ad, ids, [])) (C := RX8) (T := TX8) (N := 20) (ci := 7) (k := 13) (v := .ref (ad 12)) hC hO0 hi_X8_init_X8 rfl (by decide) (by decide) rfl rfl xf61_X8_init dX8_init_262 rfl ?_
      refine v_ldcS hC (xE_str12 hC.2.2.2.2.2) dX8_init_265 ?_
      refine v_iload_n hC dX8_init_267 1 rfl ?_
      refine v_callSI_str (G := (D, cA, ad, ids, [])) (w := 12) hC xE_ok (n := 1) (As := [.int x1]) (kJ_charAt l (by decide) g_1) (cwV 1 hC.1.2.2.2.2 gX8_init_J0_charAt_5068e rfl rfl rfl (by decide +kernel) ⟨(Nat.le_of_ble_eq_true rfl), (Nat.le_of_ble_eq_true rfl)⟩) (by decide) rfl (Nat.le_of_ble_eq_true rfl) ⟨Nat.le_of_ble_eq_true rfl, Nat.le_of_ble_eq_true rfl⟩ dX8_init_268 rfl ?_
      obtain ⟨s2, hc_2, h⟩ := bd1 h
      refine v_callVV (G := (D, cA, ad, ids, [])) hC xE_ok (n := 1) (As := [.int (sCh 12 (ix x1))]) (k_X5_add l hG (obX_7_13 hG hO0) hc_2) (cwV 1 hC.1.2.2.2.2 gX8_init_X5_add rfl rfl rfl (by decide +kernel) ⟨(Nat.le_of_ble_eq_true rfl), (Nat.le_of_ble_eq_true rfl)⟩) (obX_7_13 hG hO0) (by decide) rfl rfl rfl (Nat.le_of_ble_eq_true rfl) ⟨Nat.le_of_ble_eq_true rfl, Nat.le_of_ble_eq_true rfl⟩ dX8_init_271 rfl ?_
      refine v_iinc (v := (x1 + 1)) (L' := [(0, .ref (ad 0)), (1, .int (x1 + 1))]) hC dX8_init_274 1 rfl rfl (by decide) [1, 0] rfl ?_
      refine v_goto (tgt := 252) hC dX8_init_277 (by decide) ?_
      exact ih _ _ h
