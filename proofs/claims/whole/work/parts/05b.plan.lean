theorem oi3_X1_init : Cond.methodLink RX1 3 Lib.objectInit ∈ wsX1_init ∧ Cond.instanceMethod Lib.objectInit ∈ wsX1_init ∧ Cond.code Lib.objectInit ⟨#[0xb1]⟩ 1 none ∈ wsX1_init := by decide +kernel
theorem nw9_X1_init : Cond.classLink RX1 9 RX4 ∈ wsX1_init ∧ Cond.instantiable RX4 7 ∈ wsX1_init ∧ Cond.initialized RX4 ∈ wsX1_init := by decide +kernel
theorem hrX4_X1_init : ∀ w ∈ u_ws RX4 TX4 7, w ∈ wsX1_init := by decide +kernel
theorem inX4_X1_init : Cond.initialized RX4 ∈ wsX1_init ∧ Cond.instanceMethod yX4_init ∈ wsX1_init := by decide +kernel
theorem fl12_X1_init : Cond.fieldLink RX1 12 RX1 (TX1 2).2.1 (TX1 2).2.2.1 ∈ wsX1_init := by decide +kernel
theorem hrX1_X1_init : ∀ w ∈ u_ws RX1 TX1 3, w ∈ wsX1_init := by decide +kernel
theorem fl18_X1_init : Cond.fieldLink RX1 18 RX1 (TX1 0).2.1 (TX1 0).2.2.1 ∈ wsX1_init := by decide +kernel
theorem fl22_X1_init : Cond.fieldLink RX1 22 RX1 (TX1 1).2.1 (TX1 1).2.2.1 ∈ wsX1_init := by decide +kernel
set_option maxHeartbeats 200000 in
set_option maxRecDepth 100000 in
theorem k_X1_init {adK adV : Nat → Nat} {tb : Nat} (l : Launch) {G : WD} {σ : HS} {h0 : Nat} {ex0 : va_W} {p1 : Int32} {p2 : Int32} : MX (xE adK adV tb) l yX1_init wsX1_init { frames := 2, cells := 1, slots := 7, locals := 50 } (GE G (ex0 ++ [(h0, .inr (1, [.int 0, .int 0, .null]))])) xY [.ref h0, .int p1, .int p2] σ (fun u => ex0 ++ [(h0, .inr (1, [.int p1, .int p2, .ref u.1])), (u.1, .inr (4, [.int 0, .int 0, .int 0, .int 0, .int 0, .int 0, .long 0]))]) 1 7 := by
  refine MX.of RX1 (by decide) rfl rfl (Nat.le_of_ble_eq_true rfl) rfl rfl (fun p e s m below meth c hC hin => ?_)
  refine v_aload_n hC dX1_init_0 0 rfl ?_
  refine v_objInit hC oi3_X1_init (Nat.le_of_ble_eq_true rfl) (Nat.le_of_ble_eq_true rfl) dX1_init_1 ?_
  refine v_aload_n hC dX1_init_4 0 rfl ?_
  refine v_newXt (ci := 4) (fs := [.int 0, .int 0, .int 0, .int 0, .int 0, .int 0, .long 0]) (C := RX4) (T := TX4) (N := 7) hC hrX4_X1_init tyX4_ok nw9_X1_init rfl (fun j hj => by rcases (show j = 0 ∨ j = 1 ∨ j = 2 ∨ j = 3 ∨ j = 4 ∨ j = 5 ∨ j = 6 by omega) with rfl | rfl | rfl | rfl | rfl | rfl | rfl <;> rfl) (Nat.le_of_ble_eq_true rfl) (Nat.le_of_ble_eq_true rfl) dX1_init_5 (fun q5 => ?_)
  refine v_ge (tl' := [(h0, .inr (1, [.int 0, .int 0, .null])), (q5, .inr (4, [.int 0, .int 0, .int 0, .int 0, .int 0, .int 0, .long 0]))]) rfl ?_
  refine v_dup (G := GE G (ex0 ++ [(h0, .inr (1, [.int 0, .int 0, .null])), (q5, .inr (4, [.int 0, .int 0, .int 0, .int 0, .int 0, .int 0, .long 0]))])) (va := .ref q5) hC dX1_init_8 rfl ?_
  refine V.spl (t1 := [(h0, .inr (1, [.int 0, .int 0, .null]))]) (t2 := [(q5, .inr (4, [.int 0, .int 0, .int 0, .int 0, .int 0, .int 0, .long 0]))]) rfl ?_
  refine v_callIN (G := GE G ((ex0 ++ ([(h0, .inr (1, [.int 0, .int 0, .null]))] : va_W)) ++ ([(q5, .inr (4, [.int 0, .int 0, .int 0, .int 0, .int 0, .int 0, .long 0]))] : va_W))) (R := { frames := 2, cells := 1, slots := 7, locals := 50 }) (cells := 1) (slots := 7) (mc := 0) (ms := 0) hC xE_ok (n := 0) (As := []) (k_X4_init l (G := G) (ex0 := ex0 ++ ([(h0, .inr (1, [.int 0, .int 0, .null]))] : va_W))) ⟨va_cnB 0 hC.1.2.2.2.2 ggX1_init_X4_init rfl rfl rfl (xE_nm1 hC.2.2.2.2.2) (hC.1.2.2.2.2 _ inX4_X1_init.1) (by decide +kernel) ⟨(Nat.le_of_ble_eq_true rfl), (Nat.le_of_ble_eq_true rfl)⟩, rfl, hC.1.2.2.2.2 _ inX4_X1_init.2⟩ rfl (Nat.le_of_ble_eq_true rfl) ⟨(Nat.le_of_ble_eq_true rfl), (Nat.le_of_ble_eq_true rfl)⟩ dX1_init_9 rfl (fun u9 => ?_)
  refine V.jn (t := [(h0, .inr (1, [.int 0, .int 0, .null])), (q5, .inr (4, [.int 0, .int 0, .int 0, .int 0, .int 0, .int 0, .long 0]))]) rfl ?_
  refine v_putFXt (C := RX1) (T := TX1) (N := 3) (ci := 1) (k := 2) (x := 0) (fs := [.int 0, .int 0, .null]) hC rfl hrX1_X1_init rfl (by decide) rfl rfl tyX1_ok nmX1 fl12_X1_init rfl hin rfl rfl rfl (Nat.le_of_ble_eq_true rfl) dX1_init_12 ?_
  refine v_ge (tl' := [(h0, .inr (1, [.int 0, .int 0, .ref q5])), (q5, .inr (4, [.int 0, .int 0, .int 0, .int 0, .int 0, .int 0, .long 0]))]) rfl ?_
  refine v_aload_n hC dX1_init_15 0 rfl ?_
  refine v_iload_n hC dX1_init_16 1 rfl ?_
  refine v_putFXt (C := RX1) (T := TX1) (N := 3) (ci := 1) (k := 0) (x := 0) (fs := [.int 0, .int 0, .ref q5]) (ty := .int) hC rfl hrX1_X1_init rfl (by decide) rfl rfl tyX1_ok nmX1 fl18_X1_init rfl hin rfl rfl rfl (Nat.le_of_ble_eq_true rfl) dX1_init_17 ?_
  refine v_ge (tl' := [(h0, .inr (1, [.int p1, .int 0, .ref q5])), (q5, .inr (4, [.int 0, .int 0, .int 0, .int 0, .int 0, .int 0, .long 0]))]) rfl ?_
  refine v_aload_n hC dX1_init_20 0 rfl ?_
  refine v_iload_n hC dX1_init_21 2 rfl ?_
  refine v_putFXt (C := RX1) (T := TX1) (N := 3) (ci := 1) (k := 1) (x := 0) (fs := [.int p1, .int 0, .ref q5]) (ty := .int) hC rfl hrX1_X1_init rfl (by decide) rfl rfl tyX1_ok nmX1 fl22_X1_init rfl hin rfl rfl rfl (Nat.le_of_ble_eq_true rfl) dX1_init_22 ?_
  refine v_ge (tl' := [(h0, .inr (1, [.int p1, .int p2, .ref q5])), (q5, .inr (4, [.int 0, .int 0, .int 0, .int 0, .int 0, .int 0, .long 0]))]) rfl ?_
  exact v_vretX (G := GE G (ex0 ++ [(h0, .inr (1, [.int p1, .int p2, .ref q5])), (q5, .inr (4, [.int 0, .int 0, .int 0, .int 0, .int 0, .int 0, .long 0]))])) (F := fun u => ex0 ++ [(h0, .inr (1, [.int p1, .int p2, .ref u.1])), (u.1, .inr (4, [.int 0, .int 0, .int 0, .int 0, .int 0, .int 0, .long 0]))]) (q5, 0, 0) hC rfl dX1_init_25 rfl
