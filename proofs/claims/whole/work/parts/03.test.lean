theorem fl15_X0_at : Cond.fieldLink RX0 15 RX0 (TX0 1).2.1 (TX0 1).2.2.1 ∈ wsX0_at := by decide +kernel
theorem hi_X0_at_X0 : ∀ w ∈ u_ws RX0 TX0 5, w ∈ wsX0_at := by decide +kernel
theorem fl9_X0_at : Cond.fieldLink RX0 9 RX0 (TX0 0).2.1 (TX0 0).2.2.1 ∈ wsX0_at := by decide +kernel
theorem fl15_X0_has : Cond.fieldLink RX0 15 RX0 (TX0 1).2.1 (TX0 1).2.2.1 ∈ wsX0_has := by decide +kernel
theorem hi_X0_has_X0 : ∀ w ∈ u_ws RX0 TX0 5, w ∈ wsX0_has := by decide +kernel
theorem fl9_X0_put : Cond.fieldLink RX0 9 RX0 (TX0 0).2.1 (TX0 0).2.2.1 ∈ wsX0_put := by decide +kernel
theorem hi_X0_put_X0 : ∀ w ∈ u_ws RX0 TX0 5, w ∈ wsX0_put := by decide +kernel
theorem fl15_X0_ringLength : Cond.fieldLink RX0 15 RX0 (TX0 1).2.1 (TX0 1).2.2.1 ∈ wsX0_ringLength := by decide +kernel
theorem hi_X0_ringLength_X0 : ∀ w ∈ u_ws RX0 TX0 5, w ∈ wsX0_ringLength := by decide +kernel
theorem fl15_X0_digits : Cond.fieldLink RX0 15 RX0 (TX0 1).2.1 (TX0 1).2.2.1 ∈ wsX0_digits := by decide +kernel
theorem hi_X0_digits_X0 : ∀ w ∈ u_ws RX0 TX0 5, w ∈ wsX0_digits := by decide +kernel
abbrev rmX0_at : Room := { frames := 0, cells := 0, slots := 0, locals := 0 }
def c_X0_at (i0 : Nat) (p1 : Int32) (σ : HS) : Option (Int32 × HS) := (if p1 < 0 then (some ((-1), σ)) else (if (gI σ i0 1) ≤ p1 then (some ((-1), σ)) else (if inb p1 12 = true then (some ((gI σ (i0 + 1) (ix p1)), σ)) else none)))
set_option maxHeartbeats 4000000 in
set_option maxRecDepth 100000 in
theorem w_X0_at {adK adV : Nat → Nat} {tb : Nat} {p : Program} {l : Launch} {e : Env} {s : State} {m : MethodId} {args : Array Value} {below : List Frame} {meth : Method} {c : Code} {A : Nat → Prop} {G : WD}  {r0 : Int32} {τ : HS} {i0 : Nat} {p1 : Int32} {σ : HS}  (hG : GX G xY) (hO0 : Ob G xY i0 0) (hC : Cx (xE adK adV tb) G.1 G.2.1 xY cX0_at 2 (some .int) RX0 wsX0_at p s m args meth c A) (h : c_X0_at i0 p1 σ = some (r0, τ)) : V p l e rmX0_at s m args below meth c 2 A G xY 0 0 (MQ below (QI G xY A r0 τ) args s 0 0 A) σ 0 [(0, .ref (G.2.2.1 i0)), (1, .int p1)] [] := by
  rw [c_X0_at] at h
  refine v_iload_n hC dX0_at_0 1 rfl ?_
  refine v_if_lt (tgt := 21) hC dX0_at_1 (by decide) (fun c_1 => ?_) (fun c_1 => ?_)
  · replace h := ift c_1 h
    refine v_iconst (v := (-1)) hC dX0_at_21 (by decide) ?_
    exact v_iret hC rfl dX0_at_22 h
  · replace h := ifn c_1 h
    refine v_iload_n hC dX0_at_4 1 rfl ?_
    refine v_aload_n hC dX0_at_5 0 rfl ?_
    refine v_get (C := RX0) (T := TX0) (N := 5) (ci := 0) (k := 1) (v := .int (gI σ i0 1)) hC hO0 hi_X0_at_X0 rfl (by decide) (by decide) rfl rfl fl15_X0_at dX0_at_6 rfl ?_
    refine v_icmp_ge (tgt := 21) hC dX0_at_9 (by decide) (fun c_2 => ?_) (fun c_2 => ?_)
    · replace h := ift c_2 h
      refine v_iconst (v := (-1)) hC dX0_at_21 (by decide) ?_
      exact v_iret hC rfl dX0_at_22 h
    · replace h := ifn c_2 h
      refine v_aload_n hC dX0_at_12 0 rfl ?_
      refine v_get (C := RX0) (T := TX0) (N := 5) (ci := 0) (k := 0) (v := .ref (G.2.2.1 (i0 + 1))) hC hO0 hi_X0_at_X0 rfl (by decide) (by decide) rfl rfl fl9_X0_at dX0_at_13 rfl ?_
      refine v_iload_n hC dX0_at_16 1 rfl ?_
      obtain ⟨g_3, h⟩ := gd h
      refine v_iald hC (obX_0_0 hG hO0).1 (obX_0_0 hG hO0).2 (t0 := 0) rfl g_3 dX0_at_17 ?_
      refine v_goto (tgt := 22) hC dX0_at_18 (by decide) ?_
      exact v_iret hC rfl dX0_at_22 h
theorem k_X0_at {adK adV : Nat → Nat} {tb : Nat} (l : Launch) {G : WD}  {r0 : Int32} {τ : HS} {i0 : Nat} {p1 : Int32} {σ : HS}  (hG : GX G xY) (hO0 : Ob G xY i0 0) (h : c_X0_at i0 p1 σ = some (r0, τ)) : MI (xE adK adV tb) l yX0_at wsX0_at rmX0_at G xY [.ref (G.2.2.1 i0), .int p1] σ r0 τ :=
  MI.of RX0 (by decide) rfl rfl (Nat.le_of_ble_eq_true rfl) rfl rfl (fun p e s m below meth c hC => w_X0_at  hG hO0 hC h)
abbrev rmX0_has : Room := { frames := 0, cells := 0, slots := 0, locals := 0 }
def c_X0_has (i0 : Nat) (p1 : Int32) (σ : HS) : Option (Int32 × HS) := (if p1 < 0 then (some (0, σ)) else (if (gI σ i0 1) ≤ p1 then (some (0, σ)) else (some (1, σ))))
set_option maxHeartbeats 4000000 in
set_option maxRecDepth 100000 in
theorem w_X0_has {adK adV : Nat → Nat} {tb : Nat} {p : Program} {l : Launch} {e : Env} {s : State} {m : MethodId} {args : Array Value} {below : List Frame} {meth : Method} {c : Code} {A : Nat → Prop} {G : WD}  {r0 : Int32} {τ : HS} {i0 : Nat} {p1 : Int32} {σ : HS}  (hG : GX G xY) (hO0 : Ob G xY i0 0) (hC : Cx (xE adK adV tb) G.1 G.2.1 xY cX0_has 2 (some .boolean) RX0 wsX0_has p s m args meth c A) (h : c_X0_has i0 p1 σ = some (r0, τ)) : V p l e rmX0_has s m args below meth c 2 A G xY 0 0 (MQ below (QI G xY A r0 τ) args s 0 0 A) σ 0 [(0, .ref (G.2.2.1 i0)), (1, .int p1)] [] := by
  rw [c_X0_has] at h
  refine v_iload_n hC dX0_has_0 1 rfl ?_
  refine v_if_lt (tgt := 16) hC dX0_has_1 (by decide) (fun c_1 => ?_) (fun c_1 => ?_)
  · replace h := ift c_1 h
    refine v_iconst (v := 0) hC dX0_has_16 (by decide) ?_
    exact v_zret hC rfl rfl dX0_has_17 h
  · replace h := ifn c_1 h
    refine v_iload_n hC dX0_has_4 1 rfl ?_
    refine v_aload_n hC dX0_has_5 0 rfl ?_
    refine v_get (C := RX0) (T := TX0) (N := 5) (ci := 0) (k := 1) (v := .int (gI σ i0 1)) hC hO0 hi_X0_has_X0 rfl (by decide) (by decide) rfl rfl fl15_X0_has dX0_has_6 rfl ?_
    refine v_icmp_ge (tgt := 16) hC dX0_has_9 (by decide) (fun c_2 => ?_) (fun c_2 => ?_)
    · replace h := ift c_2 h
      refine v_iconst (v := 0) hC dX0_has_16 (by decide) ?_
      exact v_zret hC rfl rfl dX0_has_17 h
    · replace h := ifn c_2 h
      refine v_iconst (v := 1) hC dX0_has_12 (by decide) ?_
      refine v_goto (tgt := 17) hC dX0_has_13 (by decide) ?_
      exact v_zret hC rfl rfl dX0_has_17 h
theorem k_X0_has {adK adV : Nat → Nat} {tb : Nat} (l : Launch) {G : WD}  {r0 : Int32} {τ : HS} {i0 : Nat} {p1 : Int32} {σ : HS}  (hG : GX G xY) (hO0 : Ob G xY i0 0) (h : c_X0_has i0 p1 σ = some (r0, τ)) : MI (xE adK adV tb) l yX0_has wsX0_has rmX0_has G xY [.ref (G.2.2.1 i0), .int p1] σ r0 τ :=
  MI.of RX0 (by decide) rfl rfl (Nat.le_of_ble_eq_true rfl) rfl rfl (fun p e s m below meth c hC => w_X0_has  hG hO0 hC h)
abbrev rmX0_put : Room := { frames := 1, cells := 0, slots := 0, locals := 21 }
def c_X0_put (i0 : Nat) (p1 : Int32) (p2 : Int32) (σ : HS) : Option HS := (bi2 (c_X0_has i0 p1 σ) (fun r3 s2 => (if r3 = 0 then (some s2) else (if inb p1 12 = true then (lt (sI s2 (i0 + 1) (ix p1) p2) (fun s6 => (some s6))) else none))))
set_option maxHeartbeats 4000000 in
set_option maxRecDepth 100000 in
theorem w_X0_put {adK adV : Nat → Nat} {tb : Nat} {p : Program} {l : Launch} {e : Env} {s : State} {m : MethodId} {args : Array Value} {below : List Frame} {meth : Method} {c : Code} {A : Nat → Prop} {G : WD}  {τ : HS} {i0 : Nat} {p1 : Int32} {p2 : Int32} {σ : HS}  (hG : GX G xY) (hO0 : Ob G xY i0 0) (hC : Cx (xE adK adV tb) G.1 G.2.1 xY cX0_put 3 none RX0 wsX0_put p s m args meth c A) (h : c_X0_put i0 p1 p2 σ = some τ) : V p l e rmX0_put s m args below meth c 3 A G xY 0 0 (MQ below (QV G xY A τ) args s 0 0 A) σ 0 [(0, .ref (G.2.2.1 i0)), (1, .int p1), (2, .int p2)] [] := by
  rw [c_X0_put] at h
  refine v_aload_n hC dX0_put_0 0 rfl ?_
  refine v_iload_n hC dX0_put_1 1 rfl ?_
  obtain ⟨r3, s2, hc_1, h⟩ := bd2 h
  refine v_callVI hC xE_ok (n := 1) (As := [.int p1]) (k_X0_has l hG (hO0) hc_1) (cwV 1 hC.1.2.2.2.2 gX0_put_X0_has rfl rfl rfl (by decide +kernel) ⟨(Nat.le_of_ble_eq_true rfl), (Nat.le_of_ble_eq_true rfl)⟩) hO0 (by decide) rfl rfl rfl (Nat.le_of_ble_eq_true rfl) ⟨Nat.zero_le _, Nat.zero_le _⟩ dX0_put_2 rfl ?_
  refine v_if_eq (tgt := 15) hC dX0_put_5 (by decide) (fun c_4 => ?_) (fun c_4 => ?_)
  · replace h := ift c_4 h
    exact v_vret hC rfl dX0_put_15 h
  · replace h := ifn c_4 h
    refine v_aload_n hC dX0_put_8 0 rfl ?_
    refine v_get (C := RX0) (T := TX0) (N := 5) (ci := 0) (k := 0) (v := .ref (G.2.2.1 (i0 + 1))) hC hO0 hi_X0_put_X0 rfl (by decide) (by decide) rfl rfl fl9_X0_put dX0_put_9 rfl ?_
    refine v_iload_n hC dX0_put_12 1 rfl ?_
    refine v_iload_n hC dX0_put_13 2 rfl ?_
    obtain ⟨g_5, h⟩ := gd h
    refine v_iast hC (obX_0_0 hG hO0).1 (obX_0_0 hG hO0).2 (t0 := 0) rfl g_5 dX0_put_14 ?_
    obtain ⟨s6, e7, h⟩ := ld h
    refine V.eq e7 ?_
    exact v_vret hC rfl dX0_put_15 h
theorem k_X0_put {adK adV : Nat → Nat} {tb : Nat} (l : Launch) {G : WD}  {τ : HS} {i0 : Nat} {p1 : Int32} {p2 : Int32} {σ : HS}  (hG : GX G xY) (hO0 : Ob G xY i0 0) (h : c_X0_put i0 p1 p2 σ = some τ) : MV (xE adK adV tb) l yX0_put wsX0_put rmX0_put G xY [.ref (G.2.2.1 i0), .int p1, .int p2] σ τ :=
  MV.of RX0 (by decide) rfl rfl (Nat.le_of_ble_eq_true rfl) rfl rfl (fun p e s m below meth c hC => w_X0_put  hG hO0 hC h)
abbrev rmX0_change : Room := { frames := 2, cells := 0, slots := 0, locals := 43 }
def c_X0_change (i0 : Nat) (p1 : Int32) (p2 : Int32) (σ : HS) : Option HS := (bi2 (c_X0_at i0 p1 σ) (fun r3 s2 => (bi2 (c_X0_at i0 p2 s2) (fun r6 s5 => (bi1 (c_X0_put i0 p1 r6 s5) (fun s8 => (bi1 (c_X0_put i0 p2 r3 s8) (fun s10 => (some s10)))))))))
set_option maxHeartbeats 4000000 in
set_option maxRecDepth 100000 in
theorem w_X0_change {adK adV : Nat → Nat} {tb : Nat} {p : Program} {l : Launch} {e : Env} {s : State} {m : MethodId} {args : Array Value} {below : List Frame} {meth : Method} {c : Code} {A : Nat → Prop} {G : WD}  {τ : HS} {i0 : Nat} {p1 : Int32} {p2 : Int32} {σ : HS}  (hG : GX G xY) (hO0 : Ob G xY i0 0) (hC : Cx (xE adK adV tb) G.1 G.2.1 xY cX0_change 4 none RX0 wsX0_change p s m args meth c A) (h : c_X0_change i0 p1 p2 σ = some τ) : V p l e rmX0_change s m args below meth c 4 A G xY 0 0 (MQ below (QV G xY A τ) args s 0 0 A) σ 0 [(0, .ref (G.2.2.1 i0)), (1, .int p1), (2, .int p2)] [] := by
  rw [c_X0_change] at h
  refine v_aload_n hC dX0_change_0 0 rfl ?_
  refine v_iload_n hC dX0_change_1 1 rfl ?_
  obtain ⟨r3, s2, hc_1, h⟩ := bd2 h
  refine v_callVI hC xE_ok (n := 1) (As := [.int p1]) (k_X0_at l hG (hO0) hc_1) (cwV 1 hC.1.2.2.2.2 gX0_change_X0_at rfl rfl rfl (by decide +kernel) ⟨(Nat.le_of_ble_eq_true rfl), (Nat.le_of_ble_eq_true rfl)⟩) hO0 (by decide) rfl rfl rfl (Nat.le_of_ble_eq_true rfl) ⟨Nat.zero_le _, Nat.zero_le _⟩ dX0_change_2 rfl ?_
  refine v_istore_n (L' := [(0, .ref (G.2.2.1 i0)), (1, .int p1), (2, .int p2), (3, .int r3)]) hC dX0_change_5 (by decide) [1, 2, 3, 0] rfl ?_
  refine v_aload_n hC dX0_change_6 0 rfl ?_
  refine v_iload_n hC dX0_change_7 1 rfl ?_
  refine v_aload_n hC dX0_change_8 0 rfl ?_
  refine v_iload_n hC dX0_change_9 2 rfl ?_
  obtain ⟨r6, s5, hc_4, h⟩ := bd2 h
  refine v_callVI hC xE_ok (n := 1) (As := [.int p2]) (k_X0_at l hG (hO0) hc_4) (cwV 1 hC.1.2.2.2.2 gX0_change_X0_at rfl rfl rfl (by decide +kernel) ⟨(Nat.le_of_ble_eq_true rfl), (Nat.le_of_ble_eq_true rfl)⟩) hO0 (by decide) rfl rfl rfl (Nat.le_of_ble_eq_true rfl) ⟨Nat.zero_le _, Nat.zero_le _⟩ dX0_change_10 rfl ?_
  obtain ⟨s8, hc_7, h⟩ := bd1 h
  refine v_callVV hC xE_ok (n := 2) (As := [.int p1, .int r6]) (k_X0_put l hG (hO0) hc_7) (cwV 2 hC.1.2.2.2.2 gX0_change_X0_put rfl rfl rfl (by decide +kernel) ⟨(Nat.le_of_ble_eq_true rfl), (Nat.le_of_ble_eq_true rfl)⟩) hO0 (by decide) rfl rfl rfl (Nat.le_of_ble_eq_true rfl) ⟨Nat.zero_le _, Nat.zero_le _⟩ dX0_change_13 rfl ?_
  refine v_aload_n hC dX0_change_16 0 rfl ?_
  refine v_iload_n hC dX0_change_17 2 rfl ?_
  refine v_iload_n hC dX0_change_18 3 rfl ?_
  obtain ⟨s10, hc_9, h⟩ := bd1 h
  refine v_callVV hC xE_ok (n := 2) (As := [.int p2, .int r3]) (k_X0_put l hG (hO0) hc_9) (cwV 2 hC.1.2.2.2.2 gX0_change_X0_put rfl rfl rfl (by decide +kernel) ⟨(Nat.le_of_ble_eq_true rfl), (Nat.le_of_ble_eq_true rfl)⟩) hO0 (by decide) rfl rfl rfl (Nat.le_of_ble_eq_true rfl) ⟨Nat.zero_le _, Nat.zero_le _⟩ dX0_change_19 rfl ?_
  exact v_vret hC rfl dX0_change_22 h
theorem k_X0_change {adK adV : Nat → Nat} {tb : Nat} (l : Launch) {G : WD}  {τ : HS} {i0 : Nat} {p1 : Int32} {p2 : Int32} {σ : HS}  (hG : GX G xY) (hO0 : Ob G xY i0 0) (h : c_X0_change i0 p1 p2 σ = some τ) : MV (xE adK adV tb) l yX0_change wsX0_change rmX0_change G xY [.ref (G.2.2.1 i0), .int p1, .int p2] σ τ :=
  MV.of RX0 (by decide) rfl rfl (Nat.le_of_ble_eq_true rfl) rfl rfl (fun p e s m below meth c hC => w_X0_change  hG hO0 hC h)
abbrev rmX0_ringLength : Room := { frames := 1, cells := 0, slots := 0, locals := 21 }
def c_X0_ringLength_8 : Nat → Nat → Int32 → Int32 → Int32 → HS → Option (Int32 × HS)
  | 0, _, _, _, _, _ => none
  | n + 1, i0, x1, x2, x3, σ => (if (gI σ i0 1) < x3 then (some (0, σ)) else (if x2 = (-1) then (some (0, σ)) else (if x2 = x1 then (some (x3, σ)) else (bi2 (c_X0_at i0 x2 σ) (fun r9 s8 => (c_X0_ringLength_8 n i0 x1 r9 (x3 + 1) s8))))))
set_option maxHeartbeats 4000000 in
set_option maxRecDepth 100000 in
theorem w_X0_ringLength_8 {adK adV : Nat → Nat} {tb : Nat} {p : Program} {l : Launch} {e : Env} {s : State} {m : MethodId} {args : Array Value} {below : List Frame} {meth : Method} {c : Code} {A : Nat → Prop} {G : WD}  {r0 : Int32} {τ : HS} {i0 : Nat}  (hG : GX G xY) (hO0 : Ob G xY i0 0) (hC : Cx (xE adK adV tb) G.1 G.2.1 xY cX0_ringLength 4 (some .int) RX0 wsX0_ringLength p s m args meth c A)  : ∀ (n : Nat) (x1 : Int32) (x2 : Int32) (x3 : Int32) (σ : HS), c_X0_ringLength_8 n i0 x1 x2 x3 σ = some (r0, τ) → V p l e rmX0_ringLength s m args below meth c 4 A G xY 0 0 (MQ below (QI G xY A r0 τ) args s 0 0 A) σ 8 [(0, .ref (G.2.2.1 i0)), (1, .int x1), (2, .int x2), (3, .int x3)] [] := by
  intro n
  induction n with
  | zero => intro x1 x2 x3 σ h; exact nof h
  | succ n ih =>
    intro x1 x2 x3 σ h
    rw [c_X0_ringLength_8] at h
    refine v_iload_n hC dX0_ringLength_8 3 rfl ?_
    refine v_aload_n hC dX0_ringLength_9 0 rfl ?_
    refine v_get (C := RX0) (T := TX0) (N := 5) (ci := 0) (k := 1) (v := .int (gI σ i0 1)) hC hO0 hi_X0_ringLength_X0 rfl (by decide) (by decide) rfl rfl fl15_X0_ringLength dX0_ringLength_10 rfl ?_
    refine v_icmp_gt (tgt := 40) hC dX0_ringLength_13 (by decide) (fun c_4 => ?_) (fun c_4 => ?_)
    · replace h := ift c_4 h
      refine v_iconst (v := 0) hC dX0_ringLength_40 (by decide) ?_
      exact v_iret hC rfl dX0_ringLength_41 h
    · replace h := ifn c_4 h
      refine v_iload_n hC dX0_ringLength_16 2 rfl ?_
      refine v_iconst (v := (-1)) hC dX0_ringLength_17 (by decide) ?_
      refine v_icmp_eq (tgt := 40) hC dX0_ringLength_18 (by decide) (fun c_5 => ?_) (fun c_5 => ?_)
      · replace h := ift c_5 h
        refine v_iconst (v := 0) hC dX0_ringLength_40 (by decide) ?_
        exact v_iret hC rfl dX0_ringLength_41 h
      · replace h := ifn c_5 h
        refine v_iload_n hC dX0_ringLength_21 2 rfl ?_
        refine v_iload_n hC dX0_ringLength_22 1 rfl ?_
        refine v_icmp_ne (tgt := 28) hC dX0_ringLength_23 (by decide) (fun c_6 => ?_) (fun c_6 => ?_)
        · replace h := ifn c_6 h
          refine v_aload_n hC dX0_ringLength_28 0 rfl ?_
          refine v_iload_n hC dX0_ringLength_29 2 rfl ?_
          obtain ⟨r9, s8, hc_7, h⟩ := bd2 h
          refine v_callVI hC xE_ok (n := 1) (As := [.int x2]) (k_X0_at l hG (hO0) hc_7) (cwV 1 hC.1.2.2.2.2 gX0_ringLength_X0_at rfl rfl rfl (by decide +kernel) ⟨(Nat.le_of_ble_eq_true rfl), (Nat.le_of_ble_eq_true rfl)⟩) hO0 (by decide) rfl rfl rfl (Nat.le_of_ble_eq_true rfl) ⟨Nat.zero_le _, Nat.zero_le _⟩ dX0_ringLength_30 rfl ?_
          refine v_istore_n (L' := [(0, .ref (G.2.2.1 i0)), (1, .int x1), (2, .int r9), (3, .int x3)]) hC dX0_ringLength_33 (by decide) [1, 2, 0, 3] rfl ?_
          refine v_iinc (v := (x3 + 1)) (L' := [(0, .ref (G.2.2.1 i0)), (1, .int x1), (2, .int r9), (3, .int (x3 + 1))]) hC dX0_ringLength_34 3 rfl rfl (by decide) [1, 2, 3, 0] rfl ?_
          refine v_goto (tgt := 8) hC dX0_ringLength_37 (by decide) ?_
          exact ih _ _ _ _ h
        · replace h := ift c_6 h
          refine v_iload_n hC dX0_ringLength_26 3 rfl ?_
          exact v_iret hC rfl dX0_ringLength_27 h
def c_X0_ringLength (i0 : Nat) (p1 : Int32) (σ : HS) : Option (Int32 × HS) := (bi2 (c_X0_at i0 p1 σ) (fun r3 s2 => (c_X0_ringLength_8 FU i0 p1 r3 1 s2)))
set_option maxHeartbeats 4000000 in
set_option maxRecDepth 100000 in
theorem w_X0_ringLength {adK adV : Nat → Nat} {tb : Nat} {p : Program} {l : Launch} {e : Env} {s : State} {m : MethodId} {args : Array Value} {below : List Frame} {meth : Method} {c : Code} {A : Nat → Prop} {G : WD}  {r0 : Int32} {τ : HS} {i0 : Nat} {p1 : Int32} {σ : HS}  (hG : GX G xY) (hO0 : Ob G xY i0 0) (hC : Cx (xE adK adV tb) G.1 G.2.1 xY cX0_ringLength 4 (some .int) RX0 wsX0_ringLength p s m args meth c A) (h : c_X0_ringLength i0 p1 σ = some (r0, τ)) : V p l e rmX0_ringLength s m args below meth c 4 A G xY 0 0 (MQ below (QI G xY A r0 τ) args s 0 0 A) σ 0 [(0, .ref (G.2.2.1 i0)), (1, .int p1)] [] := by
  rw [c_X0_ringLength] at h
  refine v_aload_n hC dX0_ringLength_0 0 rfl ?_
  refine v_iload_n hC dX0_ringLength_1 1 rfl ?_
  obtain ⟨r3, s2, hc_1, h⟩ := bd2 h
  refine v_callVI hC xE_ok (n := 1) (As := [.int p1]) (k_X0_at l hG (hO0) hc_1) (cwV 1 hC.1.2.2.2.2 gX0_ringLength_X0_at rfl rfl rfl (by decide +kernel) ⟨(Nat.le_of_ble_eq_true rfl), (Nat.le_of_ble_eq_true rfl)⟩) hO0 (by decide) rfl rfl rfl (Nat.le_of_ble_eq_true rfl) ⟨Nat.zero_le _, Nat.zero_le _⟩ dX0_ringLength_2 rfl ?_
  refine v_istore_n (L' := [(0, .ref (G.2.2.1 i0)), (1, .int p1), (2, .int r3)]) hC dX0_ringLength_5 (by decide) [1, 2, 0] rfl ?_
  refine v_iconst (v := 1) hC dX0_ringLength_6 (by decide) ?_
  refine v_istore_n (L' := [(0, .ref (G.2.2.1 i0)), (1, .int p1), (2, .int r3), (3, .int 1)]) hC dX0_ringLength_7 (by decide) [1, 2, 3, 0] rfl ?_
  exact w_X0_ringLength_8 hG (hO0) hC FU _ _ _ _ h
theorem k_X0_ringLength {adK adV : Nat → Nat} {tb : Nat} (l : Launch) {G : WD}  {r0 : Int32} {τ : HS} {i0 : Nat} {p1 : Int32} {σ : HS}  (hG : GX G xY) (hO0 : Ob G xY i0 0) (h : c_X0_ringLength i0 p1 σ = some (r0, τ)) : MI (xE adK adV tb) l yX0_ringLength wsX0_ringLength rmX0_ringLength G xY [.ref (G.2.2.1 i0), .int p1] σ r0 τ :=
  MI.of RX0 (by decide) rfl rfl (Nat.le_of_ble_eq_true rfl) rfl rfl (fun p e s m below meth c hC => w_X0_ringLength  hG hO0 hC h)
abbrev rmX0_digits : Room := { frames := 1, cells := 0, slots := 0, locals := 21 }
def c_X0_digits_4 : Nat → Nat → Int32 → Int32 → HS → Option (Int32 × HS)
  | 0, _, _, _, _ => none
  | n + 1, i0, x1, x2, σ => (if (gI σ i0 1) ≤ x2 then (some (x1, σ)) else (bi2 (c_X0_at i0 x2 σ) (fun r4 s3 => (c_X0_digits_4 n i0 (((10 * x1) + r4) + 1) (x2 + 1) s3))))
set_option maxHeartbeats 4000000 in
set_option maxRecDepth 100000 in
theorem w_X0_digits_4 {adK adV : Nat → Nat} {tb : Nat} {p : Program} {l : Launch} {e : Env} {s : State} {m : MethodId} {args : Array Value} {below : List Frame} {meth : Method} {c : Code} {A : Nat → Prop} {G : WD}  {r0 : Int32} {τ : HS} {i0 : Nat}  (hG : GX G xY) (hO0 : Ob G xY i0 0) (hC : Cx (xE adK adV tb) G.1 G.2.1 xY cX0_digits 3 (some .int) RX0 wsX0_digits p s m args meth c A)  : ∀ (n : Nat) (x1 : Int32) (x2 : Int32) (σ : HS), c_X0_digits_4 n i0 x1 x2 σ = some (r0, τ) → V p l e rmX0_digits s m args below meth c 3 A G xY 0 0 (MQ below (QI G xY A r0 τ) args s 0 0 A) σ 4 [(0, .ref (G.2.2.1 i0)), (1, .int x1), (2, .int x2)] [] := by
  intro n
  induction n with
  | zero => intro x1 x2 σ h; exact nof h
  | succ n ih =>
    intro x1 x2 σ h
    rw [c_X0_digits_4] at h
    refine v_iload_n hC dX0_digits_4 2 rfl ?_
    refine v_aload_n hC dX0_digits_5 0 rfl ?_
    refine v_get (C := RX0) (T := TX0) (N := 5) (ci := 0) (k := 1) (v := .int (gI σ i0 1)) hC hO0 hi_X0_digits_X0 rfl (by decide) (by decide) rfl rfl fl15_X0_digits dX0_digits_6 rfl ?_
    refine v_icmp_ge (tgt := 31) hC dX0_digits_9 (by decide) (fun c_1 => ?_) (fun c_1 => ?_)
    · replace h := ift c_1 h
      refine v_iload_n hC dX0_digits_31 1 rfl ?_
      exact v_iret hC rfl dX0_digits_32 h
    · replace h := ifn c_1 h
      refine v_bipush (v := 10) hC dX0_digits_12 (by decide) ?_
      refine v_iload_n hC dX0_digits_14 1 rfl ?_
      refine v_imul hC dX0_digits_15 ?_
      refine v_aload_n hC dX0_digits_16 0 rfl ?_
      refine v_iload_n hC dX0_digits_17 2 rfl ?_
      obtain ⟨r4, s3, hc_2, h⟩ := bd2 h
      refine v_callVI hC xE_ok (n := 1) (As := [.int x2]) (k_X0_at l hG (hO0) hc_2) (cwV 1 hC.1.2.2.2.2 gX0_digits_X0_at rfl rfl rfl (by decide +kernel) ⟨(Nat.le_of_ble_eq_true rfl), (Nat.le_of_ble_eq_true rfl)⟩) hO0 (by decide) rfl rfl rfl (Nat.le_of_ble_eq_true rfl) ⟨Nat.zero_le _, Nat.zero_le _⟩ dX0_digits_18 rfl ?_
      refine v_iadd hC dX0_digits_21 ?_
      refine v_iconst (v := 1) hC dX0_digits_22 (by decide) ?_
      refine v_iadd hC dX0_digits_23 ?_
      refine v_istore_n (L' := [(0, .ref (G.2.2.1 i0)), (1, .int (((10 * x1) + r4) + 1)), (2, .int x2)]) hC dX0_digits_24 (by decide) [1, 0, 2] rfl ?_
      refine v_iinc (v := (x2 + 1)) (L' := [(0, .ref (G.2.2.1 i0)), (1, .int (((10 * x1) + r4) + 1)), (2, .int (x2 + 1))]) hC dX0_digits_25 2 rfl rfl (by decide) [1, 2, 0] rfl ?_
      refine v_goto (tgt := 4) hC dX0_digits_28 (by decide) ?_
      exact ih _ _ _ h
def c_X0_digits (i0 : Nat) (σ : HS) : Option (Int32 × HS) := (c_X0_digits_4 FU i0 0 0 σ)
set_option maxHeartbeats 4000000 in
set_option maxRecDepth 100000 in
theorem w_X0_digits {adK adV : Nat → Nat} {tb : Nat} {p : Program} {l : Launch} {e : Env} {s : State} {m : MethodId} {args : Array Value} {below : List Frame} {meth : Method} {c : Code} {A : Nat → Prop} {G : WD}  {r0 : Int32} {τ : HS} {i0 : Nat} {σ : HS}  (hG : GX G xY) (hO0 : Ob G xY i0 0) (hC : Cx (xE adK adV tb) G.1 G.2.1 xY cX0_digits 3 (some .int) RX0 wsX0_digits p s m args meth c A) (h : c_X0_digits i0 σ = some (r0, τ)) : V p l e rmX0_digits s m args below meth c 3 A G xY 0 0 (MQ below (QI G xY A r0 τ) args s 0 0 A) σ 0 [(0, .ref (G.2.2.1 i0))] [] := by
  rw [c_X0_digits] at h
  refine v_iconst (v := 0) hC dX0_digits_0 (by decide) ?_
  refine v_istore_n (L' := [(0, .ref (G.2.2.1 i0)), (1, .int 0)]) hC dX0_digits_1 (by decide) [1, 0] rfl ?_
  refine v_iconst (v := 0) hC dX0_digits_2 (by decide) ?_
  refine v_istore_n (L' := [(0, .ref (G.2.2.1 i0)), (1, .int 0), (2, .int 0)]) hC dX0_digits_3 (by decide) [1, 2, 0] rfl ?_
  exact w_X0_digits_4 hG (hO0) hC FU _ _ _ h
theorem k_X0_digits {adK adV : Nat → Nat} {tb : Nat} (l : Launch) {G : WD}  {r0 : Int32} {τ : HS} {i0 : Nat} {σ : HS}  (hG : GX G xY) (hO0 : Ob G xY i0 0) (h : c_X0_digits i0 σ = some (r0, τ)) : MI (xE adK adV tb) l yX0_digits wsX0_digits rmX0_digits G xY [.ref (G.2.2.1 i0)] σ r0 τ :=
  MI.of RX0 (by decide) rfl rfl (Nat.le_of_ble_eq_true rfl) rfl rfl (fun p e s m below meth c hC => w_X0_digits  hG hO0 hC h)
