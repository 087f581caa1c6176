/-! THE METHOD `plans` -/
theorem same_has {i0 : Nat} {p1 : Int32} {σ s : HS} {r : Int32} (h : c_X3_has i0 p1 σ = some (r, s)) : s = σ := by
  rw [c_X3_has] at h
  split at h
  · cases h; rfl
  · split at h <;> cases h <;> rfl
theorem same_isMissing {i0 : Nat} {σ s : HS} {r : Int32} (h : c_X3_isMissing i0 σ = some (r, s)) : s = σ := by
  rw [c_X3_isMissing] at h
  split at h <;> cases h <;> rfl
theorem same_hasAll {i0 : Nat} {p1 p2 : Int32} {σ s : HS} {r : Int32} (h : c_X3_hasAll i0 p1 p2 σ = some (r, s)) : s = σ := by
  rw [c_X3_hasAll] at h
  split at h
  · cases h; rfl
  · split at h
    · cases h; rfl
    · split at h
      · cases h; rfl
      · split at h <;> cases h <;> rfl
theorem same_at {i0 : Nat} {p1 : Int32} {σ s : HS} {r : Int32} (h : c_X3_at i0 p1 σ = some (r, s)) : s = σ := by
  rw [c_X3_at] at h
  obtain ⟨r1, s1, h1, h2⟩ := bd2 h
  clear h
  have e := same_has h1
  by_cases c : r1 = 0
  · have h3 := ift c h2
    simp only [Option.some.injEq, Prod.mk.injEq] at h3
    rw [← h3.2, e]
  · obtain ⟨-, h3⟩ := gd (ifn c h2)
    simp only [Option.some.injEq, Prod.mk.injEq] at h3
    rw [← h3.2, e]
theorem same_sheetAt {p1 : Int32} {σ s : HS} {r : Option Nat} (h : c_X8_sheetAt p1 σ = some (r, s)) : s = σ := by
  rw [c_X8_sheetAt] at h
  by_cases c : p1 < 0
  · have h3 := ift c h
    simp only [Option.some.injEq, Prod.mk.injEq] at h3
    exact h3.2.symm
  · have h2 := ifn c h
    by_cases c : 4 ≤ p1
    · have h3 := ift c h2
      simp only [Option.some.injEq, Prod.mk.injEq] at h3
      exact h3.2.symm
    · obtain ⟨-, h3⟩ := gd (ifn c h2)
      simp only [Option.some.injEq, Prod.mk.injEq] at h3
      exact h3.2.symm
/-- a call whose answer says the new world -/
theorem v_callVP {EX : (Nat → Prop) → State → Heap → Prop} {p : Program} {l : Launch} {e : Env} {R : Room} {s : State} {m : MethodId} {args : Array Value} {below : List Frame} {meth : Method} {c : Code} {nL : Nat} {A : Nat → Prop} {G : WD} {cells slots mc ms : Nat} {Q : State → Prop} {σ τ : HS} {pc : Nat} {L : List (Nat × Value)} {st : List Value} {cc : ByteArray} {ret : Option FieldType} {own : String} {Ts : List Cond} (hC : Cx EX G.1 G.2.1 xY cc nL ret own Ts p s m args meth c A) (hX : EXok EX) {C : String} {i ci n index maxL : Nat} {q : vw_C} {y : MethodName} {bytes : ByteArray} {rt : Option FieldType} {ws : List Cond} {rm : Room} {As : List Value} {r0 : Int32} (hM : MPl EX l y ws rm G (.ref (G.2.2.1 i) :: As) σ r0 τ mc ms) (cw : CallW R s args own C index y bytes maxL rt ws rm mc ms n) (hO : Ob G xY i ci) (hci : ci < 9) (hc : vwCl[ci]? = some q) (hq : q.1 = C) (hn : As.length = n) (hst : (st.map fun v => v.category).sum ≤ 8) (hcs : cells + mc ≤ R.cells ∧ slots + ms ≤ R.slots) (hdg : decode cc pc = .ok (.invokevirtual index, 3)) {st0 : List Value} (hs0 : st0 = As.reverse ++ .ref (G.2.2.1 i) :: st) (kk : ∀ u : (Nat → Nat) × List Nat, PlQ G r0 τ r0 u → V p l e R s m args below meth c nL A (G.1, G.2.1, u.1, u.2, []) xY (cells + mc) (slots + ms) Q τ (pc + 3) L (.int r0 :: st)) : V p l e R s m args below meth c nL A G xY cells slots Q σ pc L st0 := by
  intro H locs ls hW hS hl
  obtain ⟨q0, hq0⟩ := wl_at (Y := xY) (σ := σ) hO.1
  rw [cont_obj hO.2 hci] at hq0
  have hF := wA_in hW hS hC.2.2.2.2.1
  refine va_calli (va_runV (As := As) (rest := st) hC.1 (hM H.size) cw ⟨pc_blind hX, by rw [← hq]; exact va_recv hC.2.2.2.1 hW.1 hc hq0, pc_at hX hW hS hC.2.2.2.2.1 hC.2.2.2.1 hC.2.2.2.2.2⟩ rfl hn hl.1 hs0 (lv_room hst) hdg hcs) hS (fun q _ h => hF q h) hF (fun r u t H1 locs1 ht hvm hw hB hz hk hS1 => ?_)
  have hr := hw.1
  subst hr
  exact kk u hw H1 locs1 ls (by rw [← ht]; exact hB.1.weaken hF) hS1 hl
/-- the world within `plans` -/
def Stg (D : va_G) (cA : Nat → ClassId) (ad0 : Nat → Nat) (ids0 : List Nat) (ad : Nat → Nat) (ids : List Nat) (σ : HS) : Prop := (∀ k, k ∈ ids0 → k ∈ ids ∧ ad k = ad0 k) ∧ XI (D, cA, ad, ids, []) σ
theorem Stg.gx {D : va_G} {cA : Nat → ClassId} {ad0 ad : Nat → Nat} {ids0 ids : List Nat} {σ : HS} (h : Stg D cA ad0 ids0 ad ids σ) : GX (D, cA, ad, ids, []) xY := GX_xS h.2.2.1 h.2.2.2.1
theorem Stg.o0 {D : va_G} {cA : Nat → ClassId} {ad0 ad : Nat → Nat} {ids0 ids : List Nat} {σ : HS} (h : Stg D cA ad0 ids0 ad ids σ) : Ob (D, cA, ad, ids, []) xY 0 7 := ⟨(h.2.2.2.1 0).mpr (Or.inl (by decide)), rfl⟩
theorem Stg.mem {D : va_G} {cA : Nat → ClassId} {ad0 ad ad1 : Nat → Nat} {ids0 ids ids1 : List Nat} {σ τ : HS} {r0 : Int32} (h : Stg D cA ad0 ids0 ad ids σ) (hu : PlQ (D, cA, ad, ids, []) r0 τ r0 (ad1, ids1)) (hm : ix (gI σ 0 8) ≤ ix (gI τ 0 8)) : ∀ k, k ∈ ids → k ∈ ids1 := by
  intro k hk
  have h1 := (h.2.2.2.1 k).mp hk
  refine (hu.2.2.2.2.1 k).mpr ?_
  unfold xS at h1 ⊢
  omega
theorem plan_mono {p1 p2 r0 : Int32} {σ τ : HS} (h : c_X8_plan p1 p2 σ = some (r0, τ)) : ix (gI σ 0 8) ≤ ix (gI τ 0 8) := by
  rw [c_X8_plan] at h
  obtain ⟨r, s1, hc_1, h1⟩ := bd2 h
  clear h
  have e1 := isKind_same hc_1
  subst e1
  split at h1
  · cases h1; exact Nat.le_refl _
  split at h1
  · cases h1; exact Nat.le_refl _
  split at h1
  · split at h1
    · obtain ⟨g_1, h2⟩ := gd h1
      obtain ⟨s2, e2, h3⟩ := ld h2
      obtain ⟨s3, e3, h4⟩ := ld h3
      have n3 : gI s3 0 8 = gI s1 0 8 + 1 := by
        rw [← e3, gI_sI, if_pos ⟨rfl, rfl⟩, ← e2, gI_sR]
        have : gI (mkPlan s1 (76 + 2 * ix (gI s1 0 8)) p1 p2) 0 8 = gI s1 0 8 := congrFun (mkPlan_ne s1 _ p1 p2 0 (by omega) (by omega)).1 8
        rw [this]
      have n4 : ix (gI s1 0 8) ≤ ix (gI s3 0 8) := by
        rw [n3, ix_succ g_1 (by decide)]
        omega
      cases h4
      exact n4
    · cases h1; exact Nat.le_refl _
  · cases h1; exact Nat.le_refl _
theorem Stg.step {D : va_G} {cA : Nat → ClassId} {ad0 ad ad1 : Nat → Nat} {ids0 ids ids1 : List Nat} {σ τ : HS} {r0 : Int32} (h : Stg D cA ad0 ids0 ad ids σ) (hu : PlQ (D, cA, ad, ids, []) r0 τ r0 (ad1, ids1)) (hm : ix (gI σ 0 8) ≤ ix (gI τ 0 8)) : Stg D cA ad0 ids0 ad1 ids1 τ := by
  refine ⟨fun k hk => ?_, hu.2.2⟩
  obtain ⟨h1, h2⟩ := h.1 k hk
  exact ⟨h.mem hu hm k h1, (hu.2.1 k h1).trans h2⟩
theorem Stg.ob {D : va_G} {cA : Nat → ClassId} {ad0 ad ad1 : Nat → Nat} {ids0 ids ids1 : List Nat} {σ τ : HS} {r0 : Int32} {i c : Nat} (h : Stg D cA ad0 ids0 ad ids σ) (hu : PlQ (D, cA, ad, ids, []) r0 τ r0 (ad1, ids1)) (hm : ix (gI σ 0 8) ≤ ix (gI τ 0 8)) (ho : Ob (D, cA, ad, ids, []) xY i c) : Ob (D, cA, ad1, ids1, []) xY i c := ⟨h.mem hu hm i ho.1, ho.2⟩
theorem Stg.fin {p : Program} {l : Launch} {e : Env} {R : Room} {s : State} {m : MethodId} {args : Array Value} {below : List Frame} {meth : Method} {c : Code} {nL : Nat} {A : Nat → Prop} {EX : (Nat → Prop) → State → Heap → Prop} {D : va_G} {cA : Nat → ClassId} {ad0 ad : Nat → Nat} {ids0 ids : List Nat} {cells slots : Nat} {σ τ : HS} {pc : Nat} {L : List (Nat × Value)} {cc : ByteArray} {ret : Option FieldType} {own : String} {Ts : List Cond} {v r0 : Int32} (hST : Stg D cA ad0 ids0 ad ids σ) (hC : Cx EX D cA xY cc nL ret own Ts p s m args meth c A) (hr : ret = some .int) (hdg : decode cc pc = .ok (.ireturn, 1)) (h1 : cells ≤ 18) (h2 : slots ≤ 90) (h : some (v, σ) = some (r0, τ)) : V p l e R s m args below meth c nL A (D, cA, ad, ids, []) xY cells slots (MQ below (va_Qi (PlQ (D, cA, ad0, ids0, []) r0 τ) (PlB (D, cA, ad0, ids0, []) A τ) A) args s 18 90 A) σ pc L [.int v] := by
  cases h
  exact V.widen h1 h2 (v_iretG (ad, ids) hC hr hdg ⟨rfl, fun k hk => (hST.1 k hk).2, hST.2⟩ (fun t hW hK => ⟨hW, hK⟩))
theorem hi_X8_plans_X3 : ∀ w ∈ u_ws RX3 TX3 3, w ∈ wsX8_plans := by decide +kernel
abbrev rmX8_plans : Room := { frames := 4, cells := 18, slots := 90, locals := 130 }
def c_X8_plans_115 (k68 : Int32 → Int32 → Int32 → Int32 → HS → Option (Int32 × HS)) (i5 : Nat) (x4 : Int32) (x6 : Int32) (x7 : Int32) (x8 : Int32) (σ : HS) : Option (Int32 × HS) := (k68 x4 x6 (x7 + 2) (x8 + 1) σ)
set_option maxHeartbeats 4000000 in
set_option maxRecDepth 100000 in
theorem w_X8_plans_115 {adK adV : Nat → Nat} {tb : Nat} {p : Program} {l : Launch} {e : Env} {s : State} {m : MethodId} {args : Array Value} {below : List Frame} {meth : Method} {c : Code} {A : Nat → Prop} {D : va_G} {cA : Nat → ClassId} {ad0 ad : Nat → Nat} {ids0 ids : List Nat} {cells slots : Nat}  {r0 : Int32} {τ : HS} {i5 : Nat} {k68 : Int32 → Int32 → Int32 → Int32 → HS → Option (Int32 × HS)} {x4 : Int32} {x6 : Int32} {x7 : Int32} {x8 : Int32} {σ : HS}  (hG : GX (D, cA, ad, ids, []) xY) (hO0 : Ob (D, cA, ad, ids, []) xY 0 7) (hO5 : Ob (D, cA, ad, ids, []) xY i5 3) (hC : Cx (xE adK adV tb) D cA xY cX8_plans 9 (some .int) RX8 wsX8_plans p s m args meth c A) (hk68 : ∀ (x4 : Int32) (x6 : Int32) (x7 : Int32) (x8 : Int32) (σ : HS), Stg D cA ad0 ids0 ad ids σ → k68 x4 x6 x7 x8 σ = some (r0, τ) → V p l e rmX8_plans s m args below meth c 9 A (D, cA, ad, ids, []) xY cells slots (MQ below (va_Qi (PlQ (D, cA, ad0, ids0, []) r0 τ) (PlB (D, cA, ad0, ids0, []) A τ) A) args s 18 90 A) σ 68 [(0, .ref (ad 0)), (4, .int x4), (5, .ref (ad i5)), (6, .int x6), (7, .int x7), (8, .int x8)] []) (hST : Stg D cA ad0 ids0 ad ids σ) (h : c_X8_plans_115 k68 i5 x4 x6 x7 x8 σ = some (r0, τ)) : V p l e rmX8_plans s m args below meth c 9 A (D, cA, ad, ids, []) xY cells slots (MQ below (va_Qi (PlQ (D, cA, ad0, ids0, []) r0 τ) (PlB (D, cA, ad0, ids0, []) A τ) A) args s 18 90 A) σ 115 [(0, .ref (ad 0)), (4, .int x4), (5, .ref (ad i5)), (6, .int x6), (7, .int x7), (8, .int x8)] [] := by
  rw [c_X8_plans_115] at h
  refine v_iinc (v := (x7 + 2)) (L' := [(0, .ref (ad 0)), (4, .int x4), (5, .ref (ad i5)), (6, .int x6), (7, .int (x7 + 2)), (8, .int x8)]) hC dX8_plans_115 4 rfl rfl (by decide) [1, 2, 3, 4, 0, 5] rfl ?_
  refine v_iinc (v := (x8 + 1)) (L' := [(0, .ref (ad 0)), (4, .int x4), (5, .ref (ad i5)), (6, .int x6), (7, .int (x7 + 2)), (8, .int (x8 + 1))]) hC dX8_plans_118 5 rfl rfl (by decide) [1, 2, 3, 4, 5, 0] rfl ?_
  refine v_goto (tgt := 68) hC dX8_plans_121 (by decide) ?_
  exact hk68 _ _ _ _ _ hST h
def c_X8_plans_68 : Nat → Nat → Int32 → Int32 → Int32 → Int32 → HS → Option (Int32 × HS)
  | 0, _, _, _, _, _, _ => none
  | n + 1, i5, x4, x6, x7, x8, σ => (if x4 ≤ x8 then (some (x6, σ)) else (bi2 (c_X3_hasAll i5 x7 2 σ) (fun r18 s17 => (if r18 = 0 then (some ((-12), s17)) else (bi2 (c_X3_at i5 x7 s17) (fun r22 s21 => (bi2 (c_X3_at i5 (x7 + 1) s21) (fun r25 s24 => (bi2 (c_X8_plan r22 r25 s24) (fun r28 s27 => (if r28 < 0 then (c_X8_plans_115 (fun z0 z1 z2 z3 z4 => c_X8_plans_68 n i5 z0 z1 z2 z3 z4) i5 x4 x6 x7 x8 s27) else (c_X8_plans_115 (fun z0 z1 z2 z3 z4 => c_X8_plans_68 n i5 z0 z1 z2 z3 z4) i5 x4 (x6 + 1) x7 x8 s27))))))))))))
set_option maxHeartbeats 4000000 in
set_option maxRecDepth 100000 in
theorem w_X8_plans_68 {adK adV : Nat → Nat} {tb : Nat} {p : Program} {l : Launch} {e : Env} {s : State} {m : MethodId} {args : Array Value} {below : List Frame} {meth : Method} {c : Code} {A : Nat → Prop} {D : va_G} {cA : Nat → ClassId} {ad0 : Nat → Nat} {ids0 : List Nat}  {r0 : Int32} {τ : HS} {i5 : Nat} (hC : Cx (xE adK adV tb) D cA xY cX8_plans 9 (some .int) RX8 wsX8_plans p s m args meth c A)  : ∀ (n : Nat) (ad : Nat → Nat) (ids : List Nat) (cells slots : Nat) (hbd : cells + 2 * n ≤ 18 ∧ slots + 10 * n ≤ 90) (hO5 : Ob (D, cA, ad, ids, []) xY i5 3) (x4 : Int32) (x6 : Int32) (x7 : Int32) (x8 : Int32) (σ : HS) (hST : Stg D cA ad0 ids0 ad ids σ), c_X8_plans_68 n i5 x4 x6 x7 x8 σ = some (r0, τ) → V p l e rmX8_plans s m args below meth c 9 A (D, cA, ad, ids, []) xY cells slots (MQ below (va_Qi (PlQ (D, cA, ad0, ids0, []) r0 τ) (PlB (D, cA, ad0, ids0, []) A τ) A) args s 18 90 A) σ 68 [(0, .ref (ad 0)), (4, .int x4), (5, .ref (ad i5)), (6, .int x6), (7, .int x7), (8, .int x8)] [] := by
  intro n
  induction n with
  | zero => intro ad ids cells slots hbd hO5 x4 x6 x7 x8 σ hST h; exact nof h
  | succ n ih =>
    intro ad ids cells slots hbd hO5 x4 x6 x7 x8 σ hST h
    have hG := hST.gx
    have hO0 := hST.o0
    rw [c_X8_plans_68] at h
    refine v_iload hC dX8_plans_68 5 rfl ?_
    refine v_iload hC dX8_plans_70 1 rfl ?_
    refine v_icmp_ge (tgt := 124) hC dX8_plans_72 (by decide) (fun c_15 => ?_) (fun c_15 => ?_)
    · replace h := ift c_15 h
      refine v_iload hC dX8_plans_124 3 rfl ?_
      exact hST.fin hC rfl dX8_plans_126 (by omega) (by omega) h
    · replace h := ifn c_15 h
      refine v_aload hC dX8_plans_75 2 rfl ?_
      refine v_iload hC dX8_plans_77 4 rfl ?_
      refine v_iconst (v := 2) hC dX8_plans_79 (by decide) ?_
      obtain ⟨r18, s17, hc_16, h1⟩ := bd2 h
      clear h
      have e1 := same_hasAll hc_16
      subst e1
      have h := h1
      clear h1
      refine v_callVI hC xE_ok (n := 2) (As := [.int x7, .int 2]) (k_X3_hasAll l hG (hO5) hc_16) (cwV 2 hC.1.2.2.2.2 gX8_plans_X3_hasAll rfl rfl rfl (by decide +kernel) ⟨(Nat.le_of_ble_eq_true rfl), (Nat.le_of_ble_eq_true rfl)⟩) hO5 (by decide) rfl rfl rfl (Nat.le_of_ble_eq_true rfl) ⟨by show cells ≤ 18; omega, by show slots ≤ 90; omega⟩ dX8_plans_80 rfl ?_
      refine v_if_ne (tgt := 89) hC dX8_plans_83 (by decide) (fun c_19 => ?_) (fun c_19 => ?_)
      · replace h := ifn c_19 h
        refine v_aload_n hC dX8_plans_89 0 rfl ?_
        refine v_aload hC dX8_plans_90 2 rfl ?_
        refine v_iload hC dX8_plans_92 4 rfl ?_
        obtain ⟨r22, s21, hc_20, h1⟩ := bd2 h
        clear h
        have e1 := same_at hc_20
        subst e1
        have h := h1
        clear h1
        refine v_callVI hC xE_ok (n := 1) (As := [.int x7]) (k_X3_at l hG (hO5) hc_20) (cwV 1 hC.1.2.2.2.2 gX8_plans_X3_at rfl rfl rfl (by decide +kernel) ⟨(Nat.le_of_ble_eq_true rfl), (Nat.le_of_ble_eq_true rfl)⟩) hO5 (by decide) rfl rfl rfl (Nat.le_of_ble_eq_true rfl) ⟨by show cells ≤ 18; omega, by show slots ≤ 90; omega⟩ dX8_plans_94 rfl ?_
        refine v_aload hC dX8_plans_97 2 rfl ?_
        refine v_iload hC dX8_plans_99 4 rfl ?_
        refine v_iconst (v := 1) hC dX8_plans_101 (by decide) ?_
        refine v_iadd hC dX8_plans_102 ?_
        obtain ⟨r25, s24, hc_23, h1⟩ := bd2 h
        clear h
        have e1 := same_at hc_23
        subst e1
        have h := h1
        clear h1
        refine v_callVI hC xE_ok (n := 1) (As := [.int (x7 + 1)]) (k_X3_at l hG (hO5) hc_23) (cwV 1 hC.1.2.2.2.2 gX8_plans_X3_at rfl rfl rfl (by decide +kernel) ⟨(Nat.le_of_ble_eq_true rfl), (Nat.le_of_ble_eq_true rfl)⟩) hO5 (by decide) rfl rfl rfl (Nat.le_of_ble_eq_true rfl) ⟨by show cells ≤ 18; omega, by show slots ≤ 90; omega⟩ dX8_plans_103 rfl ?_
        obtain ⟨r28, s27, hc_26, h⟩ := bd2 h
        refine v_callVP (G := (D, cA, ad, ids, [])) hC xE_ok (n := 2) (As := [.int r22, .int r25]) (k_X8_plan l hST.2 hc_26) (cwV 2 hC.1.2.2.2.2 gX8_plans_X8_plan rfl rfl rfl (by decide +kernel) ⟨(Nat.le_of_ble_eq_true rfl), (Nat.le_of_ble_eq_true rfl)⟩) hO0 (by decide) rfl rfl rfl (Nat.le_of_ble_eq_true rfl) ⟨by show cells + 2 ≤ 18; omega, by show slots + 10 ≤ 90; omega⟩ dX8_plans_106 rfl (fun u hu => ?_)
        obtain ⟨ad1, ids1⟩ := u
        have hST1 : Stg D cA ad0 ids0 ad1 ids1 s27 := hST.step hu (plan_mono hc_26)
        have hO51 := hST.ob hu (plan_mono hc_26) hO5
        have hO01 := hST1.o0
        have a0 : ad1 0 = ad 0 := hu.2.1 0 hO0.1
        have a5 : ad1 i5 = ad i5 := hu.2.1 i5 hO5.1
        refine V.cast (L' := [(0, .ref (ad1 0)), (4, .int x4), (5, .ref (ad1 i5)), (6, .int x6), (7, .int x7), (8, .int x8)]) (st' := [.int r28]) (by rw [a0, a5]) rfl ?_
        refine v_if_lt (tgt := 115) hC dX8_plans_109 (by decide) (fun c_29 => ?_) (fun c_29 => ?_)
        · replace h := ift c_29 h
          exact w_X8_plans_115 hST1.gx hO01 hO51 hC (fun _ _ _ _ σ' hST2 h => ih ad1 ids1 (cells + 2) (slots + 10) (by omega) hO51 _ _ _ _ _ hST2 h) hST1 h
        · replace h := ifn c_29 h
          refine v_iinc (v := (x6 + 1)) (L' := [(0, .ref (ad1 0)), (4, .int x4), (5, .ref (ad1 i5)), (6, .int (x6 + 1)), (7, .int x7), (8, .int x8)]) hC dX8_plans_112 3 rfl rfl (by decide) [1, 2, 3, 0, 4, 5] rfl ?_
          exact w_X8_plans_115 hST1.gx hO01 hO51 hC (fun _ _ _ _ σ' hST2 h => ih ad1 ids1 (cells + 2) (slots + 10) (by omega) hO51 _ _ _ _ _ hST2 h) hST1 h
      · replace h := ift c_19 h
        refine v_bipush (v := (-12)) hC dX8_plans_86 (by decide) ?_
        exact hST.fin hC rfl dX8_plans_88 (by omega) (by omega) h
def c_X8_plans (p1 : Int32) (p2 : Int32) (p3 : Int32) (p4 : Int32) (σ : HS) : Option (Int32 × HS) := (bi2 (c_X8_sheetAt p1 σ) (fun r3 s2 => (mo r3 (some ((-2), s2)) (fun j5 => (if p2 < 0 then (some ((-2), s2)) else (if 2 < p2 then (some ((-2), s2)) else (if p4 < 0 then (some ((-2), s2)) else (if p4 ≤ 8 then (bi2 (c_X3_isMissing j5 s2) (fun r12 s11 => (if r12 = 0 then (if (gI s11 j5 1) = p2 then (c_X8_plans_68 9 j5 p4 0 p3 0 s11) else (some ((-13), s11))) else (some ((-11), s11))))) else (some ((-2), s2))))))))))
set_option maxHeartbeats 4000000 in
set_option maxRecDepth 100000 in
theorem w_X8_plans {adK adV : Nat → Nat} {tb : Nat} {p : Program} {l : Launch} {e : Env} {s : State} {m : MethodId} {args : Array Value} {below : List Frame} {meth : Method} {c : Code} {A : Nat → Prop} {D : va_G} {cA : Nat → ClassId} {ad0 ad : Nat → Nat} {ids0 ids : List Nat} {cells slots : Nat}  {r0 : Int32} {τ : HS} {p1 : Int32} {p2 : Int32} {p3 : Int32} {p4 : Int32} {σ : HS}  (hG : GX (D, cA, ad, ids, []) xY) (hO0 : Ob (D, cA, ad, ids, []) xY 0 7) (hC : Cx (xE adK adV tb) D cA xY cX8_plans 9 (some .int) RX8 wsX8_plans p s m args meth c A) (hbd : cells = 0 ∧ slots = 0) (hST : Stg D cA ad0 ids0 ad ids σ) (h : c_X8_plans p1 p2 p3 p4 σ = some (r0, τ)) : V p l e rmX8_plans s m args below meth c 9 A (D, cA, ad, ids, []) xY cells slots (MQ below (va_Qi (PlQ (D, cA, ad0, ids0, []) r0 τ) (PlB (D, cA, ad0, ids0, []) A τ) A) args s 18 90 A) σ 0 [(0, .ref (ad 0)), (1, .int p1), (2, .int p2), (3, .int p3), (4, .int p4)] [] := by
  rw [c_X8_plans] at h
  refine v_aload_n hC dX8_plans_0 0 rfl ?_
  refine v_iload_n hC dX8_plans_1 1 rfl ?_
  obtain ⟨r3, s2, hc_1, h1⟩ := bd2 h
  clear h
  have e1 := same_sheetAt hc_1
  subst e1
  have h := h1
  clear h1
  refine v_callVR hC xE_ok (n := 1) (As := [.int p1]) (k_X8_sheetAt l hG (hO0) hc_1) (cwV 1 hC.1.2.2.2.2 gX8_plans_X8_sheetAt rfl rfl rfl (by decide +kernel) ⟨(Nat.le_of_ble_eq_true rfl), (Nat.le_of_ble_eq_true rfl)⟩) hO0 (by decide) rfl rfl rfl (Nat.le_of_ble_eq_true rfl) ⟨by show cells ≤ 18; omega, by show slots ≤ 90; omega⟩ dX8_plans_2 rfl ?_
  refine v_wt (fun hv_4 => ?_)
  refine v_astoreR (L' := [(0, .ref (ad 0)), (2, .int p2), (3, .int p3), (4, .int p4), (5, rv ad r3)]) hC dX8_plans_5 (by decide) [1, 3, 4, 5, 0] rfl ?_
  refine v_aloadR hC dX8_plans_7 4 rfl ?_
  cases r3 with
  | none =>
    replace h := mo_n h
    refine v_ifnull_t (tgt := 33) hC dX8_plans_9 (by decide) ?_
    refine v_bipush (v := (-2)) hC dX8_plans_33 (by decide) ?_
    exact hST.fin hC rfl dX8_plans_35 (by omega) (by omega) h
  | some j5 =>
    replace h := mo_s h
    refine v_ifnull_f hC dX8_plans_9 ?_
    refine V.sub (L' := [(0, .ref (ad 0)), (2, .int p2), (3, .int p3), (4, .int p4), (5, .ref (ad j5))]) [0, 1, 2, 3, 4] rfl ?_
    refine v_iload_n hC dX8_plans_12 1 rfl ?_
    refine v_if_lt (tgt := 33) hC dX8_plans_13 (by decide) (fun c_6 => ?_) (fun c_6 => ?_)
    · replace h := ift c_6 h
      refine v_bipush (v := (-2)) hC dX8_plans_33 (by decide) ?_
      exact hST.fin hC rfl dX8_plans_35 (by omega) (by omega) h
    · replace h := ifn c_6 h
      refine v_iload_n hC dX8_plans_16 1 rfl ?_
      refine v_iconst (v := 2) hC dX8_plans_17 (by decide) ?_
      refine v_icmp_gt (tgt := 33) hC dX8_plans_18 (by decide) (fun c_7 => ?_) (fun c_7 => ?_)
      · replace h := ift c_7 h
        refine v_bipush (v := (-2)) hC dX8_plans_33 (by decide) ?_
        exact hST.fin hC rfl dX8_plans_35 (by omega) (by omega) h
      · replace h := ifn c_7 h
        refine v_iload hC dX8_plans_21 3 rfl ?_
        refine v_if_lt (tgt := 33) hC dX8_plans_23 (by decide) (fun c_8 => ?_) (fun c_8 => ?_)
        · replace h := ift c_8 h
          refine v_bipush (v := (-2)) hC dX8_plans_33 (by decide) ?_
          exact hST.fin hC rfl dX8_plans_35 (by omega) (by omega) h
        · replace h := ifn c_8 h
          refine v_iload hC dX8_plans_26 3 rfl ?_
          refine v_bipush (v := 8) hC dX8_plans_28 (by decide) ?_
          refine v_icmp_le (tgt := 36) hC dX8_plans_30 (by decide) (fun c_9 => ?_) (fun c_9 => ?_)
          · replace h := ift c_9 h
            refine v_aload hC dX8_plans_36 4 rfl ?_
            obtain ⟨r12, s11, hc_10, h1⟩ := bd2 h
            clear h
            have e1 := same_isMissing hc_10
            subst e1
            have h := h1
            clear h1
            refine v_callVI hC xE_ok (n := 0) (As := []) (k_X3_isMissing l hG ((show Ob (D, cA, ad, ids, []) xY j5 3 from (rok_sheetAt hG (hO0) hv_4 hc_1) j5 rfl)) hc_10) (cwV 0 hC.1.2.2.2.2 gX8_plans_X3_isMissing rfl rfl rfl (by decide +kernel) ⟨(Nat.le_of_ble_eq_true rfl), (Nat.le_of_ble_eq_true rfl)⟩) (show Ob (D, cA, ad, ids, []) xY j5 3 from (rok_sheetAt hG (hO0) hv_4 hc_1) j5 rfl) (by decide) rfl rfl rfl (Nat.le_of_ble_eq_true rfl) ⟨by show cells ≤ 18; omega, by show slots ≤ 90; omega⟩ dX8_plans_38 rfl ?_
            refine v_if_eq (tgt := 47) hC dX8_plans_41 (by decide) (fun c_13 => ?_) (fun c_13 => ?_)
            · replace h := ift c_13 h
              refine v_aload hC dX8_plans_47 4 rfl ?_
              refine v_getN (C := RX3) (T := TX3) (N := 3) (ci := 3) (k := 1) (v := .int (gI s11 j5 1)) hC (show Ob (D, cA, ad, ids, []) xY j5 3 from (rok_sheetAt hG (hO0) hv_4 hc_1) j5 rfl) hi_X8_plans_X3 rfl (by decide) (by decide) rfl rfl (xE_nf_X8_300 hC.2.2.2.2.2) dX8_plans_49 rfl ?_
              refine v_iload_n hC dX8_plans_52 1 rfl ?_
              refine v_icmp_eq (tgt := 59) hC dX8_plans_53 (by decide) (fun c_14 => ?_) (fun c_14 => ?_)
              · replace h := ift c_14 h
                refine v_iconst (v := 0) hC dX8_plans_59 (by decide) ?_
                refine v_istore (L' := [(0, .ref (ad 0)), (3, .int p3), (4, .int p4), (5, .ref (ad j5)), (6, .int 0)]) hC dX8_plans_60 (by decide) [1, 3, 4, 5, 0] rfl ?_
                refine v_iload_n hC dX8_plans_62 1 rfl ?_
                refine v_istore (L' := [(0, .ref (ad 0)), (4, .int p4), (5, .ref (ad j5)), (6, .int 0), (7, .int p3)]) hC dX8_plans_63 (by decide) [1, 3, 4, 5, 0] rfl ?_
                refine v_iconst (v := 0) hC dX8_plans_65 (by decide) ?_
                refine v_istore (L' := [(0, .ref (ad 0)), (4, .int p4), (5, .ref (ad j5)), (6, .int 0), (7, .int p3), (8, .int 0)]) hC dX8_plans_66 (by decide) [1, 2, 3, 4, 5, 0] rfl ?_
                exact w_X8_plans_68 hC 9 ad ids cells slots (by omega) (show Ob (D, cA, ad, ids, []) xY j5 3 from (rok_sheetAt hG (hO0) hv_4 hc_1) j5 rfl) _ _ _ _ _ hST h
              · replace h := ifn c_14 h
                refine v_bipush (v := (-13)) hC dX8_plans_56 (by decide) ?_
                exact hST.fin hC rfl dX8_plans_58 (by omega) (by omega) h
            · replace h := ifn c_13 h
              refine v_bipush (v := (-11)) hC dX8_plans_44 (by decide) ?_
              exact hST.fin hC rfl dX8_plans_46 (by omega) (by omega) h
          · replace h := ifn c_9 h
            refine v_bipush (v := (-2)) hC dX8_plans_33 (by decide) ?_
            exact hST.fin hC rfl dX8_plans_35 (by omega) (by omega) h
theorem k_X8_plans {adK adV : Nat → Nat} {tb : Nat} (l : Launch) {G : WD} {r0 : Int32} {τ : HS} {p1 : Int32} {p2 : Int32} {p3 : Int32} {p4 : Int32} {σ : HS} (hI : XI G σ) (h : c_X8_plans p1 p2 p3 p4 σ = some (r0, τ)) : MPl (xE adK adV tb) l yX8_plans wsX8_plans rmX8_plans G [.ref (G.2.2.1 0), .int p1, .int p2, .int p3, .int p4] σ r0 τ 18 90 := by
  obtain ⟨D, cA, ad, ids, ex⟩ := G
  have hx : ex = [] := hI.1
  subst hx
  have hST : Stg D cA ad ids ad ids σ := ⟨fun k hk => ⟨hk, rfl⟩, hI⟩
  exact Met.ofV RX8 (by decide) rfl rfl (Nat.le_of_ble_eq_true rfl) (fun p e s m below meth c hC hin => w_X8_plans hST.gx hST.o0 hC ⟨rfl, rfl⟩ hST h)
