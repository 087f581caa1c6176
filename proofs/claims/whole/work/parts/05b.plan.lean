theorem oi3_X1_init : Cond.methodLink RX1 3 Lib.objectInit ∈ wsX1_init ∧ Cond.instanceMethod Lib.objectInit ∈ wsX1_init ∧ Cond.code Lib.objectInit ⟨#[0xb1]⟩ 1 none ∈ wsX1_init := by decide +kernel
theorem nw9_X1_init : Cond.classLink RX1 9 RX4 ∈ wsX1_init ∧ Cond.instantiable RX4 7 ∈ wsX1_init ∧ Cond.initialized RX4 ∈ wsX1_init := by decide +kernel
theorem hrX4_X1_init : ∀ w ∈ u_ws RX4 TX4 7, w ∈ wsX1_init := by decide +kernel
theorem inX4_X1_init : Cond.initialized RX4 ∈ wsX1_init ∧ Cond.instanceMethod yX4_init ∈ wsX1_init := by decide +kernel
theorem fl12_X1_init : Cond.fieldLink RX1 12 RX1 (TX1 2).2.1 (TX1 2).2.2.1 ∈ wsX1_init := by decide +kernel
theorem hrX1_X1_init : ∀ w ∈ u_ws RX1 TX1 3, w ∈ wsX1_init := by decide +kernel
theorem fl18_X1_init : Cond.fieldLink RX1 18 RX1 (TX1 0).2.1 (TX1 0).2.2.1 ∈ wsX1_init := by decide +kernel
theorem fl22_X1_init : Cond.fieldLink RX1 22 RX1 (TX1 1).2.1 (TX1 1).2.2.1 ∈ wsX1_init := by decide +kernel
set_option maxHeartbeats 4000000 in
set_option maxRecDepth 100000 in
theorem k_X1_init {adK adV : Nat → Nat} {tb : Nat} (l : Launch) {G : WD} {σ : HS} {h0 : Nat} {ex0 : va_W} {p1 : Int32} {p2 : Int32} : MX (xE adK adV tb) l yX1_init wsX1_init { frames := 2, cells := 1, slots := 7, locals := 50 } (GE G (ex0 ++ [(h0, .inr (1, [.int 0, .int 0, .null]))])) xY [.ref h0, .int p1, .int p2] σ (fun u => ex0 ++ [(h0, .inr (1, [.int p1, .int p2, .ref u.1])), (u.1, .inr (4, [.int 0, .int 0, .int 0, .int 0, .int 0, .int 0, .long 0]))]) 1 7 := by
  refine MX.of RX1 (by decide) rfl rfl (Nat.le_of_ble_eq_true rfl) rfl rfl (fun p e s m below meth c hC hin => ?_)
  refine v_aload_n hC dX1_init_0 0 rfl ?_
  refine v_objInit hC oi3_X1_init (Nat.le_of_ble_eq_true rfl) (Nat.le_of_ble_eq_true rfl) dX1_init_1 ?_
  refine v_aload_n hC dX1_init_4 0 rfl ?_
  refine v_newXt (ci := 4) (fs := [.int 0, .int 0, .int 0, .int 0, .int 0, .int 0, .long 0]) (C := RX4) (T := TX4) (N := 7) hC hrX4_X1_init tyX4_ok nw9_X1_init rfl (fun j hj => by rcases (show j = 0 ∨ j = 1 ∨ j = 2 ∨ j = 3 ∨ j = 4 ∨ j = 5 ∨ j = 6 by omega) with rfl | rfl | rfl | rfl | rfl | rfl | rfl <;> rfl) (Nat.le_of_ble_eq_true rfl) (Nat.le_of_ble_eq_true rfl) dX1_init_5 (fun q5 => ?_)
  refine v_ge (tl' := [(h0, .inr (1, [.int 0, .int 0, .null])), (q5, .inr (4, [.int 0, .int 0, .int 0, .int 0, .int 0, .int 0, .long 0]))]) rfl ?_
  refine v_dup (G := GE G (ex0 ++ [(h0, .inr (1, [.int 0, .int 0, .null])), (q5, .inr (4, [.int 0, .int 0, .int 0, .int 0, .int 0, .int 0, .long 0]))])) (va := .ref q5) hC dX1_init_8 rfl ?_
  refine V.spl (t1 := [(h0, .inr (1, [.int 0, .int 0, .null]))]) (t2 := [(q5, .inr (4, [.int 0, .int 0, .int 0, .int 0, .int 0, .int 0, .long 0]))]) rfl ?_
  refine v_callIN (G := GE G ((ex0 ++ ([(h0, .inr (1, [.int 0, .int 0, .null]))] : va_W)) ++ ([(q5, .inr (4, [.int 0, .int 0, .int 0, .int 0, .int 0, .int 0, .long 0]))] : va_W))) (R := { frames := 2, cells := 1, slots := 7, locals := 50 }) (cells := 1) (slots := 7) (mc := 0) (ms := 0) hC xE_ok (n := 0) (As := []) (k_X4_init l (G := G) (ex0 := ex0 ++ ([(h0, .inr (1, [.int 0, .int 0, .null]))] : va_W))) ⟨va_cnB 0 hC.1.2.2.2.2 ggX1_init_X4_init rfl rfl rfl (xE_nm1 hC.2.2.2.2.2) (hC.1.2.2.2.2 _ inX4_X1_init.1) (by decide +kernel) ⟨(Nat.le_of_ble_eq_true rfl), (Nat.le_of_ble_eq_true rfl)⟩, rfl, hC.1.2.2.2.2 _ inX4_X1_init.2⟩ rfl (Nat.le_of_ble_eq_true rfl) ⟨(Nat.le_of_ble_eq_true rfl), (Nat.le_of_ble_eq_true rfl)⟩ dX1_init_9 rfl (fun u9 => ?_)
  refine V.jn (t := [(h0, .inr (1, [.int 0, .int 0, .null])), (q5, .inr (4, [.int 0, .int 0, .int 0, .int 0, .int 0, .int 0, .long 0]))]) rfl ?_
  refine v_putFXt (C := RX1) (T := TX1) (N := 3) (ci := 1) (k := 2) (x := 0) (fs := [.int 0, .int 0, .null]) hC rfl hrX1_X1_init rfl (by decide) rfl rfl tyX1_ok nmX1 fl12_X1_init rfl hin rfl rfl rfl (Nat.le_of_ble_eq_true rfl) dX1_init_12 ?_
  refine v_ge (tl' := [(h0, .inr (1, [.int 0, .int 0, .ref q5])), (q5, .inr (4, [.int 0, .int 0, .int 0, .int 0, .int 0, .int 0, .long 0]))]) rfl ?_
  refine v_aload_n hC dX1_init_15 0 rfl ?_
  refine v_iload_n hC dX1_init_16 1 rfl ?_
  refine v_putFXt (C := RX1) (T := TX1) (N := 3) (ci := 1) (k := 0) (x := 0) (fs := [.int 0, .int 0, .ref q5]) (ty := .int) hC rfl hrX1_X1_init rfl (by decide) rfl rfl tyX1_ok nmX1 fl18_X1_init rfl hin rfl rfl rfl (Nat.le_of_ble_eq_true rfl) dX1_init_17 ?_
  refine v_ge (tl' := [(h0, .inr (1, [.int p1, .int 0, .ref q5])), (q5, .inr (4, [.int 0, .int 0, .int 0, .int 0, .int 0, .int 0, .long 0]))]) rfl ?_
  refine v_aload_n hC dX1_init_20 0 rfl ?_
  refine v_iload_n hC dX1_init_21 2 rfl ?_
  refine v_putFXt (C := RX1) (T := TX1) (N := 3) (ci := 1) (k := 1) (x := 0) (fs := [.int p1, .int 0, .ref q5]) (ty := .int) hC rfl hrX1_X1_init rfl (by decide) rfl rfl tyX1_ok nmX1 fl22_X1_init rfl hin rfl rfl rfl (Nat.le_of_ble_eq_true rfl) dX1_init_22 ?_
  refine v_ge (tl' := [(h0, .inr (1, [.int p1, .int p2, .ref q5])), (q5, .inr (4, [.int 0, .int 0, .int 0, .int 0, .int 0, .int 0, .long 0]))]) rfl ?_
  exact v_vretX (G := GE G (ex0 ++ [(h0, .inr (1, [.int p1, .int p2, .ref q5])), (q5, .inr (4, [.int 0, .int 0, .int 0, .int 0, .int 0, .int 0, .long 0]))])) (F := fun u => ex0 ++ [(h0, .inr (1, [.int p1, .int p2, .ref u.1])), (u.1, .inr (4, [.int 0, .int 0, .int 0, .int 0, .int 0, .int 0, .long 0]))]) (q5, 0, 0) hC rfl dX1_init_25 rfl
/-! A METHOD THAT MAKES PLANS -/
theorem Met.ofV {EX : (Nat → Prop) → State → Heap → Prop} {l : Launch} {y : MethodName} {ws ws' : List Cond} {rm : Room} {G : WD} {Y : YD} {As : List Value} {σ : HS} {mc ms : Nat} {cc : ByteArray} {maxL : Nat} {ret : Option FieldType} {Qc : Nat → Array Value → State → Outcome → State → Prop} (own : String) (hy : plainName y.cls = true) (hw : ws = Cond.code y cc maxL ret :: ws') (hown : y.cls = own) (hlen : (lg_sl As).length ≤ maxL)
    (body : ∀ (p : Program) (e : Env) (s : State) (m : MethodId) (below : List Frame) (meth : Method) (c : Code), Cx EX G.1 G.2.1 Y cc maxL ret own ws p s m As.toArray meth c (wA G s.heap.size) → meth.name = y.name → V p l e rm s m As.toArray below meth c maxL (wA G s.heap.size) G Y 0 0 (MQ below (Qc s.heap.size) As.toArray s mc ms (wA G s.heap.size)) σ 0 (lv_args 0 As) []) : ∀ sz : Nat, Met l y ws rm (va_Pc As (MPre EX G Y σ sz)) (Qc sz) mc ms (wA G sz) := by
  intro sz
  refine Met.ofW (cc := cc) (maxL := maxL) (ret := ret) hy hw ?_
  intro p e s m args below meth c s₁ B hml hv
  obtain ⟨rfl, hsz, hW, hK, hE⟩ := hv
  subst hsz
  have hC : Cx EX G.1 G.2.1 Y cc maxL ret own ws p s m As.toArray meth c (wA G s.heap.size) := ⟨⟨B.exec, B.bytes, hml, by rw [← hown]; exact findClass_of_methodNamed B.named, atoms_spec (ws := ws) B.pre⟩, B.returns, B.notSynchronized, hK, fun q h => Or.inr (Or.inr h), hE⟩
  rw [lg_entry_eq]
  exact body p e s m below meth c hC (name_of_methodNamed B.named B.method).1 s.heap [] _ hW.self va_S.rf (lv_entry As hlen)
theorem v_iretG {EX : (Nat → Prop) → State → Heap → Prop} {p : Program} {l : Launch} {e : Env} {R : Room} {s : State} {m : MethodId} {args : Array Value} {below : List Frame} {meth : Method} {c : Code} {nL : Nat} {A : Nat → Prop} {G : WD} {Y : YD} {cells slots : Nat} {σ : HS} {pc : Nat} {L : List (Nat × Value)} {cc : ByteArray} {ret : Option FieldType} {own : String} {Ts : List Cond} {U : Type} {Po : Int32 → U → Prop} {Bo : U → State → Prop} {v : Int32} (u : U) (hC : Cx EX G.1 G.2.1 Y cc nL ret own Ts p s m args meth c A) (hr : ret = some .int) (hdg : decode cc pc = .ok (.ireturn, 1)) (hpo : Po v u) (hB : ∀ t : State, wH G Y A σ t.heap → wK G Y t → Bo u t) : V p l e R s m args below meth c nL A G Y cells slots (MQ below (va_Qi Po Bo A) args s cells slots A) σ pc L [.int v] :=
  fun H locs ls hW hS hl => W.iret hC.1.1 hC.1.2.1 (hC.2.1.trans hr) (fun t ht hWm => ⟨⟨v, u, rfl, hpo, hB t (by rw [ht]; exact hW) (va_K.moved hWm.alike hC.2.2.2.1)⟩, hS.F ht⟩) hS.2.2 hdg hC.2.2.1
theorem V.cast {p : Program} {l : Launch} {e : Env} {R : Room} {s : State} {m : MethodId} {args : Array Value} {below : List Frame} {meth : Method} {c : Code} {nL : Nat} {A : Nat → Prop} {G : WD} {Y : YD} {cells slots : Nat} {Q : State → Prop} {σ : HS} {pc : Nat} {L L' : List (Nat × Value)} {st st' : List Value} (hL : L = L') (hs : st = st') (k : V p l e R s m args below meth c nL A G Y cells slots Q σ pc L' st') : V p l e R s m args below meth c nL A G Y cells slots Q σ pc L st := by rw [hL, hs]; exact k
theorem GX_xS {G : WD} {pc : Nat} (hp : pc ≤ 8) (hS : ∀ k, k ∈ G.2.2.2.1 ↔ xS pc k) : GX G xY := by
  intro i hi hk k h3
  rw [hS] at hi ⊢
  have key0 : ((List.range 92).all fun i => (List.range 20).all fun k => !(decide (xKl.getD i 99 < 9) && decide (3 ≤ fcd (xKl.getD i 99) k)) || decide (i + (fcd (xKl.getD i 99) k - 3) < 19 ∧ i < 19) || decide (20 ≤ i ∧ i + (fcd (xKl.getD i 99) k - 3) < 76 ∧ i < 76) || decide (76 ≤ i ∧ i % 2 = 0 ∧ i + (fcd (xKl.getD i 99) k - 3) = i + 1)) = true := by decide +kernel
  have key : ∀ i, i < 92 → ∀ k, k < 20 → (xKl.getD i 99 < 9 ∧ 3 ≤ fcd (xKl.getD i 99) k) → (i + (fcd (xKl.getD i 99) k - 3) < 19 ∧ i < 19) ∨ (20 ≤ i ∧ i + (fcd (xKl.getD i 99) k - 3) < 76 ∧ i < 76) ∨ (76 ≤ i ∧ i % 2 = 0 ∧ i + (fcd (xKl.getD i 99) k - 3) = i + 1) := by
    intro i hi k hk hh
    have := List.all_eq_true.mp (List.all_eq_true.mp key0 i (List.mem_range.mpr hi)) k (List.mem_range.mpr hk)
    simp only [Bool.or_eq_true, decide_eq_true_eq, hh.1, hh.2, decide_true, Bool.and_self, Bool.not_true, Bool.false_eq_true, false_or, or_assoc] at this
    exact this
  have h20 : k < 20 := by
    by_cases h : k < 20
    · exact h
    · exfalso
      have hl : ∀ c, c < 8 → ∀ k, 20 ≤ k → fcd c k = 0 := by
        intro c hc k hk
        have : (fcs.getD c []).length ≤ 20 := by
          have : ∀ c, c < 8 → (fcs.getD c []).length ≤ 20 := by decide
          exact this c hc
        rw [fcd, List.getD_eq_getElem?_getD, List.getElem?_eq_none (by omega)]
        rfl
      have h8 : xY.1 i < 8 := by
        have : ∀ i, i < 92 → xKl.getD i 99 < 9 → xKl.getD i 99 < 8 := by decide +kernel
        have h92 : i < 92 := by rcases hi with h | h <;> omega
        exact this i h92 hk
      rw [hl _ h8 k (by omega)] at h3
      omega
  have h92 : i < 92 := by rcases hi with h | h <;> omega
  have h4 : (i + (fcd (xY.1 i) k - 3) < 19 ∧ i < 19) ∨ (20 ≤ i ∧ i + (fcd (xY.1 i) k - 3) < 76 ∧ i < 76) ∨ (76 ≤ i ∧ i % 2 = 0 ∧ i + (fcd (xY.1 i) k - 3) = i + 1) := key i h92 k h20 ⟨hk, h3⟩
  unfold xS at hi ⊢
  omega
theorem isKind_same {p0 : Int32} {σ s : HS} {r : Int32} (h : c_X1_isKind p0 σ = some (r, s)) : s = σ := by
  rw [c_X1_isKind] at h
  split at h
  · simp only [Option.some.injEq, Prod.mk.injEq] at h; exact h.2.symm
  · split at h
    · simp only [Option.some.injEq, Prod.mk.injEq] at h; exact h.2.symm
    · simp only [Option.some.injEq, Prod.mk.injEq] at h; exact h.2.symm
theorem ix_succ {x : Int32} {n : Nat} (h : inb x n = true) (hn : n < 2 ^ 31) : ix (x + 1) = ix x + 1 := by
  obtain ⟨h1, h2⟩ := inb_ix h
  obtain ⟨j, hj, rfl⟩ := nI_of h1
  rw [ix, nI_clamp hj] at h2
  rw [nI_1, ix, ix, nI_clamp hj, nI_clamp (by omega)]
def c_X8_plan (p1 p2 : Int32) (σ : HS) : Option (Int32 × HS) := bi2 (c_X1_isKind p1 σ) (fun r s => if r = 0 then some (-2, s) else if p2 < 0 then some (-2, s) else if p2 ≤ 11 then (if gI s 0 8 < 8 then (if inb (gI s 0 8) 8 = true then lt (sR (mkPlan s (76 + 2 * ix (gI s 0 8)) p1 p2) 7 (ix (gI s 0 8)) (some (76 + 2 * ix (gI s 0 8)))) (fun s2 => lt (sI s2 0 8 (gI s2 0 8 + 1)) (fun s3 => some (gI s3 0 8 - 1, s3))) else none) else some (-4, s)) else some (-2, s))
/-- what holds of the ids ahead of a method that makes plans, and behind it -/
def XI (G : WD) (σ : HS) : Prop := G.2.2.2.2 = [] ∧ ix (gI σ 0 8) ≤ 8 ∧ (∀ k, k ∈ G.2.2.2.1 ↔ xS (ix (gI σ 0 8)) k) ∧ ∀ j k, 19 ≤ j → gR σ j k = none
def PlB (G : WD) (A : Nat → Prop) (τ : HS) (u : (Nat → Nat) × List Nat) (t : State) : Prop := wH (G.1, G.2.1, u.1, u.2, []) xY A τ t.heap ∧ wK G xY t
def PlQ (G : WD) (r0 : Int32) (τ : HS) (r : Int32) (u : (Nat → Nat) × List Nat) : Prop := r = r0 ∧ (∀ k, k ∈ G.2.2.2.1 → u.1 k = G.2.2.1 k) ∧ XI (G.1, G.2.1, u.1, u.2, []) τ
def MPl (EX : (Nat → Prop) → State → Heap → Prop) (l : Launch) (y : MethodName) (ws : List Cond) (rm : Room) (G : WD) (As : List Value) (σ : HS) (r0 : Int32) (τ : HS) (mc ms : Nat) : Prop := ∀ sz : Nat, Met l y ws rm (va_Pc As (MPre EX G xY σ sz)) (va_Qi (PlQ G r0 τ) (PlB G (wA G sz) τ) (wA G sz)) mc ms (wA G sz)
abbrev rmX8_plan : Room := { frames := 3, cells := 2, slots := 10, locals := 100 }
theorem pm1 : (Cond.classLink RX8 30 RX1 ∈ wsX8_plan ∧ Cond.instantiable RX1 3 ∈ wsX8_plan ∧ Cond.initialized RX1 ∈ wsX8_plan) ∧ Cond.fieldLink RX8 36 RX8 (TX8 8).2.1 (TX8 8).2.2.1 ∈ wsX8_plan ∧ Cond.fieldLink RX8 32 RX8 (TX8 7).2.1 (TX8 7).2.2.1 ∈ wsX8_plan ∧ Cond.methodLink RX8 42 yX1_init ∈ wsX8_plan ∧ Cond.instanceMethod yX1_init ∈ wsX8_plan := by decide +kernel
theorem pm2 : (∀ w ∈ u_ws RX1 TX1 3, w ∈ wsX8_plan) ∧ ∀ w ∈ u_ws RX8 TX8 20, w ∈ wsX8_plan := by decide +kernel
theorem xKp {c : Nat} (h : c < 8) : xY.1 (76 + 2 * c) = 1 ∧ xY.1 (76 + 2 * c + 1) = 4 := by
  have : ∀ c, c < 8 → xKl.getD (76 + 2 * c) 99 = 1 ∧ xKl.getD (76 + 2 * c + 1) 99 = 4 := by decide +kernel
  exact this c h
set_option maxHeartbeats 1000000 in
set_option maxRecDepth 100000 in
theorem k_X8_plan {adK adV : Nat → Nat} {tb : Nat} (l : Launch) {G : WD} {σ τ : HS} {p1 p2 r0 : Int32} (hI : XI G σ) (h : c_X8_plan p1 p2 σ = some (r0, τ)) : MPl (xE adK adV tb) l yX8_plan wsX8_plan rmX8_plan G [.ref (G.2.2.1 0), .int p1, .int p2] σ r0 τ 2 10 := by
  obtain ⟨D, cA, ad, ids, ex⟩ := G
  obtain ⟨hx, h8, hS, hR⟩ := hI
  dsimp only at hx hS
  subst hx
  have hG : GX (D, cA, ad, ids, []) xY := GX_xS h8 hS
  have hO0 : Ob (D, cA, ad, ids, []) xY 0 7 := ⟨(hS 0).mpr (Or.inl (by decide)), rfl⟩
  refine Met.ofV RX8 (by decide) rfl rfl (Nat.le_of_ble_eq_true rfl) (fun p e s m below meth c hC hin => ?_)
  rw [c_X8_plan] at h
  refine v_iload_n hC dX8_plan_0 1 rfl ?_
  obtain ⟨r, s1, hc_1, h1⟩ := bd2 h
  clear h
  have e1 := isKind_same hc_1
  subst e1
  have h := h1
  clear h1
  refine v_callSI hC xE_ok (n := 1) (As := [.int p1]) (k_X1_isKind l hG hc_1) (va_cwS 1 hC.1.2.2.2.2 gX8_plan_X1_isKind rfl rfl rfl (by decide +kernel) ⟨Nat.le_of_ble_eq_true rfl, Nat.le_of_ble_eq_true rfl⟩) rfl (Nat.le_of_ble_eq_true rfl) ⟨Nat.zero_le _, Nat.zero_le _⟩ dX8_plan_1 rfl ?_
  have stay : ∀ (v : Int32) (L : List (Nat × Value)) (pc : Nat), decode cX8_plan pc = .ok (.ireturn, 1) → some (v, s1) = some (r0, τ) → V p l e rmX8_plan s m ([.ref (ad 0), .int p1, .int p2] : List Value).toArray below meth c 3 (wA (D, cA, ad, ids, []) s.heap.size) (D, cA, ad, ids, []) xY 0 0 (MQ below (va_Qi (PlQ (D, cA, ad, ids, []) r0 τ) (PlB (D, cA, ad, ids, []) (wA (D, cA, ad, ids, []) s.heap.size) τ) (wA (D, cA, ad, ids, []) s.heap.size)) ([.ref (ad 0), .int p1, .int p2] : List Value).toArray s 2 10 (wA (D, cA, ad, ids, []) s.heap.size)) s1 pc L [.int v] := by
    intro v L pc hd hv
    cases hv
    refine V.widen (k := 2) (n := 10) (by decide) (by decide) ?_
    exact v_iretG (ad, ids) hC rfl hd ⟨rfl, fun _ _ => rfl, rfl, h8, hS, hR⟩ (fun t hW hK => ⟨hW, hK⟩)
  refine v_if_eq (tgt := 17) hC dX8_plan_4 (by decide) (fun c_1 => ?_) (fun c_1 => ?_)
  · replace h := ift c_1 h
    refine v_bipush (v := (-2)) hC dX8_plan_17 (by decide) ?_
    exact stay _ _ _ dX8_plan_19 h
  replace h := ifn c_1 h
  refine v_iload_n hC dX8_plan_7 2 rfl ?_
  refine v_if_lt (tgt := 17) hC dX8_plan_8 (by decide) (fun c_2 => ?_) (fun c_2 => ?_)
  · replace h := ift c_2 h
    refine v_bipush (v := (-2)) hC dX8_plan_17 (by decide) ?_
    exact stay _ _ _ dX8_plan_19 h
  replace h := ifn c_2 h
  refine v_iload_n hC dX8_plan_11 2 rfl ?_
  refine v_bipush (v := 11) hC dX8_plan_12 (by decide) ?_
  refine v_icmp_le (tgt := 20) hC dX8_plan_14 (by decide) (fun c_3 => ?_) (fun c_3 => ?_)
  rotate_left
  · replace h := ifn c_3 h
    refine v_bipush (v := (-2)) hC dX8_plan_17 (by decide) ?_
    exact stay _ _ _ dX8_plan_19 h
  replace h := ift c_3 h
  refine v_aload_n hC dX8_plan_20 0 rfl ?_
  refine v_get (C := RX8) (T := TX8) (N := 20) (ci := 7) (k := 8) (v := .int (gI s1 0 8)) hC hO0 pm2.2 rfl (by decide) (by decide) rfl rfl pm1.2.1 dX8_plan_21 rfl ?_
  refine v_bipush (v := 8) hC dX8_plan_24 (by decide) ?_
  refine v_icmp_lt (tgt := 32) hC dX8_plan_26 (by decide) (fun c_4 => ?_) (fun c_4 => ?_)
  rotate_left
  · replace h := ifn c_4 h
    refine v_bipush (v := (-4)) hC dX8_plan_29 (by decide) ?_
    exact stay _ _ _ dX8_plan_31 h
  replace h := ift c_4 h
  obtain ⟨g_1, h⟩ := gd h
  have hc8 : ix (gI s1 0 8) < 8 := (inb_ix g_1).2
  refine v_aload_n hC dX8_plan_32 0 rfl ?_
  refine v_get (C := RX8) (T := TX8) (N := 20) (ci := 7) (k := 7) (v := .ref (ad 7)) hC hO0 pm2.2 rfl (by decide) (by decide) rfl rfl pm1.2.2.1 dX8_plan_33 rfl ?_
  refine v_aload_n hC dX8_plan_36 0 rfl ?_
  refine v_get (C := RX8) (T := TX8) (N := 20) (ci := 7) (k := 8) (v := .int (gI s1 0 8)) hC hO0 pm2.2 rfl (by decide) (by decide) rfl rfl pm1.2.1 dX8_plan_37 rfl ?_
  refine v_newX (ci := 1) (fs := [.int 0, .int 0, .null]) (C := RX1) (T := TX1) (N := 3) hC pm2.1 tyX1_ok pm1.1 rfl (fun j hj => by rcases (show j = 0 ∨ j = 1 ∨ j = 2 by omega) with rfl | rfl | rfl <;> rfl) (Nat.le_of_ble_eq_true rfl) (Nat.le_of_ble_eq_true rfl) dX8_plan_40 (fun q => ?_)
  obtain ⟨G1, hG1⟩ : ∃ z : WD, z = GE (D, cA, ad, ids, []) (([] : va_W) ++ [(q, .inr (1, [.int 0, .int 0, .null]))]) := ⟨_, rfl⟩
  have hC1 : Cx (xE adK adV tb) G1.1 G1.2.1 xY cX8_plan 3 (some .int) RX8 wsX8_plan p s m ([.ref (ad 0), .int p1, .int p2] : List Value).toArray meth c (wA (D, cA, ad, ids, []) s.heap.size) := by rw [hG1]; exact hC
  show V p l e rmX8_plan s m ([.ref (ad 0), .int p1, .int p2] : List Value).toArray below meth c 3 (wA (D, cA, ad, ids, []) s.heap.size) (GE (D, cA, ad, ids, []) (([] : va_W) ++ [(q, .inr (1, [.int 0, .int 0, .null]))])) xY 1 3 _ s1 43 [(0, .ref (ad 0)), (1, .int p1), (2, .int p2)] [.ref q, .int (gI s1 0 8), .ref (ad 7)]
  rw [← hG1]
  refine v_dup hC1 dX8_plan_43 rfl ?_
  refine v_iload_n hC1 dX8_plan_44 1 rfl ?_
  refine v_iload_n hC1 dX8_plan_45 2 rfl ?_
  rw [hG1]
  refine v_callIX (G := GE (D, cA, ad, ids, []) (([] : va_W) ++ [(q, .inr (1, [.int 0, .int 0, .null]))])) (R := rmX8_plan) (cells := 1) (slots := 3) (mc := 1) (ms := 7) (st := [.ref q, .int (gI s1 0 8), .ref (ad 7)]) hC xE_ok (n := 2) (As := [.int p1, .int p2]) (k_X1_init l (G := (D, cA, ad, ids, [])) (ex0 := [])) (cwI 2 hC.1.2.2.2.2 gX8_plan_X1_init rfl rfl rfl (hC.1.2.2.2.2 _ pm1.1.2.2) (hC.1.2.2.2.2 _ pm1.2.2.2.1) (hC.1.2.2.2.2 _ pm1.2.2.2.2) rfl (by decide +kernel) ⟨Nat.le_of_ble_eq_true rfl, Nat.le_of_ble_eq_true rfl⟩) rfl (Nat.le_of_ble_eq_true rfl) ⟨Nat.le_of_ble_eq_true rfl, Nat.le_of_ble_eq_true rfl⟩ dX8_plan_46 rfl (fun u => ?_)
  obtain ⟨j, ej⟩ : ∃ z, z = 76 + 2 * ix (gI s1 0 8) := ⟨_, rfl⟩
  have hk := xKp hc8
  rw [← ej] at hk h
  have hne : ∀ k, k ∈ ids → k ≠ j ∧ k ≠ j + 1 := by
    intro k hk2
    have := (hS k).mp hk2
    unfold xS at this
    omega
  refine V.absorb (G := (D, cA, ad, ids, [])) (js := [j, j + 1]) (ad' := up2 ad j q u.1) (σ' := mkPlan s1 j p1 p2) hG (fun k hk2 => by simp [up2, (hne k hk2).1, (hne k hk2).2]) (fun k hk2 => mkPlan_ne s1 j p1 p2 k (hne k hk2).1 (hne k hk2).2) (ex_plan hk.1 hk.2) (fun k hk2 n => ?_) ?_
  · have : 19 ≤ k := by
      simp only [List.mem_cons, List.not_mem_nil, or_false] at hk2
      omega
    exact hR k n this
  obtain ⟨G2, hG2⟩ : ∃ z : WD, z = GA (D, cA, ad, ids, []) (up2 ad j q u.1) [j, j + 1] := ⟨_, rfl⟩
  have hids : ∀ k, k ∈ G2.2.2.2.1 ↔ xS (ix (gI s1 0 8) + 1) k := by
    intro k
    rw [hG2]
    show k ∈ ids ++ [j, j + 1] ↔ _
    rw [List.mem_append, hS k]
    simp only [List.mem_cons, List.not_mem_nil, or_false]
    unfold xS
    omega
  have hG2x : GX G2 xY := GX_xS (by omega) hids
  have hO2 : Ob G2 xY 0 7 := ⟨(hids 0).mpr (Or.inl (by decide)), rfl⟩
  have hOj : Ob G2 xY j 1 := ⟨(hids j).mpr (by unfold xS; omega), hk.1⟩
  have hC2 : Cx (xE adK adV tb) G2.1 G2.2.1 xY cX8_plan 3 (some .int) RX8 wsX8_plan p s m ([.ref (ad 0), .int p1, .int p2] : List Value).toArray meth c (wA (D, cA, ad, ids, []) s.heap.size) := by rw [hG2]; exact hC
  have a0 : G2.2.2.1 0 = ad 0 := by rw [hG2]; show up2 ad j q u.1 0 = ad 0; rw [up2, if_neg (by omega), if_neg (by omega)]
  have a7 : G2.2.2.1 7 = ad 7 := by rw [hG2]; show up2 ad j q u.1 7 = ad 7; rw [up2, if_neg (by omega), if_neg (by omega)]
  have aj : G2.2.2.1 j = q := by rw [hG2]; show up2 ad j q u.1 j = q; simp [up2]
  rw [← hG2]
  refine V.cast (L' := [(0, .ref (G2.2.2.1 0)), (1, .int p1), (2, .int p2)]) (st' := [.ref (G2.2.2.1 j), .int (gI s1 0 8), .ref (G2.2.2.1 7)]) (by rw [a0] <;> rfl) (by rw [aj, a7]) ?_
  refine v_aast (t0 := 2) (ci := 1) (T := TX1) (N := 3) (C := RX1) hC2 (obX_7_7 hG2x hO2).1 (by decide) (obX_7_7 hG2x hO2).2 rfl hOj (by decide) rfl rfl g_1 dX8_plan_49 ?_
  obtain ⟨s2, e2, h⟩ := ld h
  refine V.eq e2 ?_
  refine v_aload_n hC2 dX8_plan_50 0 rfl ?_
  refine v_dup hC2 dX8_plan_51 rfl ?_
  refine v_get (C := RX8) (T := TX8) (N := 20) (ci := 7) (k := 8) (v := .int (gI s2 0 8)) hC2 hO2 pm2.2 rfl (by decide) (by decide) rfl rfl pm1.2.1 dX8_plan_52 rfl ?_
  refine v_iconst (v := 1) hC2 dX8_plan_55 (by decide) ?_
  refine v_iadd hC2 dX8_plan_56 ?_
  refine v_putI (C := RX8) (T := TX8) (N := 20) (ci := 7) (k := 8) (ty := .int) hC2 hO2 pm2.2 rfl (by decide) (by decide) rfl rfl tyX8_ok nmX8 pm1.2.1 rfl rfl rfl rfl rfl dX8_plan_57 ?_
  obtain ⟨s3, e3, h⟩ := ld h
  refine V.eq e3 ?_
  refine v_aload_n hC2 dX8_plan_60 0 rfl ?_
  refine v_get (C := RX8) (T := TX8) (N := 20) (ci := 7) (k := 8) (v := .int (gI s3 0 8)) hC2 hO2 pm2.2 rfl (by decide) (by decide) rfl rfl pm1.2.1 dX8_plan_61 rfl ?_
  refine v_iconst (v := 1) hC2 dX8_plan_64 (by decide) ?_
  refine v_isub hC2 dX8_plan_65 ?_
  have n3 : gI s3 0 8 = gI s1 0 8 + 1 := by
    rw [← e3, gI_sI, if_pos ⟨rfl, rfl⟩, ← e2, gI_sR]
    have : gI (mkPlan s1 j p1 p2) 0 8 = gI s1 0 8 := congrFun (mkPlan_ne s1 j p1 p2 0 (by omega) (by omega)).1 8
    rw [this]
  have i3 : ix (gI s3 0 8) = ix (gI s1 0 8) + 1 := by rw [n3]; exact ix_succ g_1 (by decide)
  cases h
  refine v_iretG (G2.2.2.1, G2.2.2.2.1) hC2 rfl dX8_plan_66 ⟨rfl, fun k hk2 => ?_, rfl, by rw [i3]; omega, fun k => ?_, fun jj k hjj => ?_⟩ (fun t hW hK => ⟨?_, ?_⟩)
  · rw [hG2]
    show up2 ad j q u.1 k = ad k
    simp [up2, (hne k hk2).1, (hne k hk2).2]
  · rw [i3]; exact hids k
  · rw [← e3, gR_sI, ← e2, gR_sR, if_neg (by omega)]
    exact (congrFun (congrFun (show (mkPlan s1 j p1 p2).2.2 = s1.2.2 from rfl) jj) k).trans (hR jj k hjj)
  · rw [hG2] at hW ⊢; exact hW
  · rw [hG2] at hK; exact hK
