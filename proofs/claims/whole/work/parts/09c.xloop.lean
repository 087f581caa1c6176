/-! THE CLASS'S CONSTRUCTOR: its three loops -/
/-- the ids that there are: so many sheets, texts, shifted plans -/
def iS (ns nt np k : Nat) : Prop := k < 19 ∨ (44 ≤ k ∧ k < 44 + 2 * ns) ∨ (20 ≤ k ∧ k < 20 + 4 * nt) ∨ (52 ≤ k ∧ k < 52 + 2 * np)
theorem GX_iS {G : WD} {ns nt np : Nat} (h1 : ns ≤ 4) (h2 : nt ≤ 6) (h3 : np ≤ 12) (hS : ∀ k, k ∈ G.2.2.2.1 ↔ iS ns nt np k) : GX G xY := by
  intro i hi hk k h3
  rw [hS] at hi ⊢
  have key0 : ((List.range 76).all fun i => (List.range 20).all fun k => !(decide (xKl.getD i 99 < 9) && decide (3 ≤ fcd (xKl.getD i 99) k)) || decide (i + (fcd (xKl.getD i 99) k - 3) < 19 ∧ i < 19) || decide (20 ≤ i ∧ i < 44 ∧ i + (fcd (xKl.getD i 99) k - 3) < 44 ∧ (i + (fcd (xKl.getD i 99) k - 3)) / 4 = i / 4) || decide (44 ≤ i ∧ (i + (fcd (xKl.getD i 99) k - 3)) / 2 = i / 2)) = true := by decide +kernel
  have key : ∀ i, i < 76 → ∀ k, k < 20 → (xKl.getD i 99 < 9 ∧ 3 ≤ fcd (xKl.getD i 99) k) → (i + (fcd (xKl.getD i 99) k - 3) < 19 ∧ i < 19) ∨ (20 ≤ i ∧ i < 44 ∧ i + (fcd (xKl.getD i 99) k - 3) < 44 ∧ (i + (fcd (xKl.getD i 99) k - 3)) / 4 = i / 4) ∨ (44 ≤ i ∧ (i + (fcd (xKl.getD i 99) k - 3)) / 2 = i / 2) := by
    intro i hi k hk hh
    have := List.all_eq_true.mp (List.all_eq_true.mp key0 i (List.mem_range.mpr hi)) k (List.mem_range.mpr hk)
    simp only [Bool.or_eq_true, decide_eq_true_eq, hh.1, hh.2, decide_true, Bool.and_self, Bool.not_true, Bool.false_eq_true, false_or, or_assoc] at this
    exact this
  have h92 : i < 76 := by rcases hi with h | h | h | h <;> omega
  have h20 : k < 20 := by
    by_cases h : k < 20
    · exact h
    · exfalso
      have hl : ∀ c, c < 8 → ∀ k, 20 ≤ k → fcd c k = 0 := by
        intro c hc k hk
        have : (fcs.getD c []).length ≤ 20 := by
          have : ∀ c, c < 8 → (fcs.getD c []).length ≤ 20 := by decide
          exact this c hc
        rw [fcd, List.getD_eq_getElem?_getD, List.getElem?_eq_none (by omega)]
        rfl
      have h8 : xY.1 i < 8 := by
        have : ∀ i, i < 92 → xKl.getD i 99 < 9 → xKl.getD i 99 < 8 := by decide +kernel
        exact this i (by omega) hk
      rw [hl _ h8 k (by omega)] at h3
      omega
  have h4 : (i + (fcd (xY.1 i) k - 3) < 19 ∧ i < 19) ∨ (20 ≤ i ∧ i < 44 ∧ i + (fcd (xY.1 i) k - 3) < 44 ∧ (i + (fcd (xY.1 i) k - 3)) / 4 = i / 4) ∨ (44 ≤ i ∧ (i + (fcd (xY.1 i) k - 3)) / 2 = i / 2) := key i h92 k h20 ⟨hk, h3⟩
  unfold iS at hi ⊢
  omega
theorem xKs : (∀ i, i < 4 → xY.1 (44 + 2 * i) = 3 ∧ xY.1 (44 + 2 * i + 1) = 9 ∧ xY.2.1 (44 + 2 * i + 1) = 40) ∧ (∀ i, i < 6 → xY.1 (20 + 4 * i) = 6 ∧ (xY.1 (20 + 4 * i + 1) = 9 ∧ xY.2.1 (20 + 4 * i + 1) = 160) ∧ (xY.1 (20 + 4 * i + 2) = 9 ∧ xY.2.1 (20 + 4 * i + 2) = 3) ∧ (xY.1 (20 + 4 * i + 3) = 9 ∧ xY.2.1 (20 + 4 * i + 3) = 40)) ∧ ∀ i, i < 12 → xY.1 (52 + 2 * i) = 1 ∧ xY.1 (52 + 2 * i + 1) = 4 := by
  have a : (∀ i, i < 4 → xKl.getD (44 + 2 * i) 99 = 3 ∧ xKl.getD (44 + 2 * i + 1) 99 = 9 ∧ xLl.getD (44 + 2 * i + 1) 0 = 40) ∧ (∀ i, i < 6 → xKl.getD (20 + 4 * i) 99 = 6 ∧ (xKl.getD (20 + 4 * i + 1) 99 = 9 ∧ xLl.getD (20 + 4 * i + 1) 0 = 160) ∧ (xKl.getD (20 + 4 * i + 2) 99 = 9 ∧ xLl.getD (20 + 4 * i + 2) 0 = 3) ∧ (xKl.getD (20 + 4 * i + 3) 99 = 9 ∧ xLl.getD (20 + 4 * i + 3) 0 = 40)) ∧ ∀ i, i < 12 → xKl.getD (52 + 2 * i) 99 = 1 ∧ xKl.getD (52 + 2 * i + 1) 99 = 4 := by decide +kernel
  exact a
/-- the world within the constructor -/
def Sti (D : va_G) (cA : Nat → ClassId) (a0 : Nat) (ad : Nat → Nat) (ids : List Nat) (ns nt np : Nat) (σ : HS) : Prop := (∀ k, k ∈ ids ↔ iS ns nt np k) ∧ ad 0 = a0 ∧ ∀ j k, 19 ≤ j → gR σ j k = none
def shL : Nat → Nat → HS → HS
  | 0, _, σ => σ
  | n + 1, i, σ => shL n (i + 1) (sR (mkSheet σ (44 + 2 * i)) 15 i (some (44 + 2 * i)))
def txL : Nat → Nat → HS → HS
  | 0, _, σ => σ
  | n + 1, i, σ => txL n (i + 1) (sR (mkText σ (20 + 4 * i)) 11 i (some (20 + 4 * i)))
def plL : Nat → Nat → HS → HS
  | 0, _, σ => σ
  | n + 1, i, σ => plL n (i + 1) (sR (mkPlan σ (52 + 2 * i) 3 (nI i)) 8 i (some (52 + 2 * i)))
theorem nw72_xl : Cond.classLink RX8 72 RX3 ∈ wsX8_init ∧ Cond.instantiable RX3 3 ∈ wsX8_init ∧ Cond.initialized RX3 ∈ wsX8_init := by decide +kernel
theorem nw49_xl : Cond.classLink RX8 49 RX6 ∈ wsX8_init ∧ Cond.instantiable RX6 5 ∈ wsX8_init ∧ Cond.initialized RX6 ∈ wsX8_init := by decide +kernel
theorem nw30_xl : Cond.classLink RX8 30 RX1 ∈ wsX8_init ∧ Cond.instantiable RX1 3 ∈ wsX8_init ∧ Cond.initialized RX1 ∈ wsX8_init := by decide +kernel
theorem hr_xl : (∀ w ∈ u_ws RX3 TX3 3, w ∈ wsX8_init) ∧ (∀ w ∈ u_ws RX6 TX6 5, w ∈ wsX8_init) ∧ ∀ w ∈ u_ws RX1 TX1 3, w ∈ wsX8_init := by decide +kernel
theorem in_xl : Cond.instanceMethod yX3_init ∈ wsX8_init ∧ Cond.instanceMethod yX6_init ∈ wsX8_init ∧ Cond.instanceMethod yX1_init ∈ wsX8_init ∧ Cond.methodLink RX8 42 yX1_init ∈ wsX8_init := by decide +kernel
theorem inb3 {i n : Nat} (h : i < n) (hn : n < 100) : inb (nI i) n = true ∧ ix (nI i) = i ∧ nI i + 1 = nI (i + 1) := by
  have h1 : ix (nI i) = i := nI_clamp (by omega)
  have h0 : ¬ nI i < 0 := nI_pos (by omega)
  refine ⟨?_, h1, nI_1 i⟩
  simp only [inb, Bool.and_eq_true, decide_eq_true_eq]
  refine ⟨h0, ?_⟩
  have : (nI i).toNatClampNeg = i := h1
  omega
set_option maxHeartbeats 4000000 in
set_option maxRecDepth 100000 in
theorem w_X8_init_170 {adK adV : Nat → Nat} {tb : Nat} {p : Program} {l : Launch} {e : Env} {s : State} {m : MethodId} {args : Array Value} {below : List Frame} {meth : Method} {c : Code} {A : Nat → Prop} {D : va_G} {cA : Nat → ClassId} {a0 : Nat} {τ : HS} {Q : State → Prop} (hC : Cx (xE adK adV tb) D cA xY cX8_init 2 none RX8 wsX8_init p s m args meth c A) (kk : ∀ (ad : Nat → Nat) (ids : List Nat), Sti D cA a0 ad ids 4 0 0 τ → V p l e rmX8_init s m args below meth c 2 A (D, cA, ad, ids, []) xY 26 456 Q τ 194 [(0, .ref (ad 0)), (1, .int (nI 4))] []) : ∀ (n i : Nat), n + i = 4 → ∀ (ad : Nat → Nat) (ids : List Nat) (σ : HS), Sti D cA a0 ad ids i 0 0 σ → shL n i σ = τ → V p l e rmX8_init s m args below meth c 2 A (D, cA, ad, ids, []) xY (18 + 2 * i) (284 + 43 * i) Q σ 170 [(0, .ref (ad 0)), (1, .int (nI i))] [] := by
  intro n
  induction n with
  | zero =>
    intro i hi ad ids σ hS h
    obtain rfl : i = 4 := by omega
    subst h
    refine v_iload_n hC dX8_init_170 1 rfl ?_
    refine v_iconst (v := 4) hC dX8_init_171 (by decide) ?_
    refine v_icmp_ge (tgt := 194) hC dX8_init_172 (by decide) (fun c_1 => ?_) (fun c_1 => absurd (show (4 : Int32) ≤ nI 4 by decide) c_1)
    exact kk ad ids hS
  | succ n ih =>
    intro i hi ad ids σ hS h
    have hi4 : i < 4 := by omega
    obtain ⟨b1, b2, b3⟩ := inb3 hi4 (by decide)
    obtain ⟨hm, ha0, hR⟩ := hS
    have hG : GX (D, cA, ad, ids, []) xY := GX_iS (by omega) (by decide) (by decide) hm
    have hO0 : Ob (D, cA, ad, ids, []) xY 0 7 := ⟨(hm 0).mpr (Or.inl (by decide)), rfl⟩
    refine v_iload_n hC dX8_init_170 1 rfl ?_
    refine v_iconst (v := 4) hC dX8_init_171 (by decide) ?_
    refine v_icmp_ge (tgt := 194) hC dX8_init_172 (by decide) (fun c_1 => ?_) (fun c_1 => ?_)
    · exfalso
      have : (4 : Int32) = nI 4 := by decide
      rw [this, nI_leI (by omega) (by omega)] at c_1
      omega
    refine v_aload_n hC dX8_init_175 0 rfl ?_
    refine v_get (G := (D, cA, ad, ids, [])) (C := RX8) (T := TX8) (N := 20) (ci := 7) (k := 15) (v := .ref (ad 15)) hC hO0 hi_X8_init_X8 rfl (by decide) (by decide) rfl rfl xf74_X8_init dX8_init_176 rfl ?_
    refine v_iload_n hC dX8_init_179 1 rfl ?_
    refine v_newX (G := (D, cA, ad, ids, [])) (ci := 3) (fs := [.null, .int 0, .int 0]) (C := RX3) (T := TX3) (N := 3) hC hr_xl.1 tyX3_ok nw72_xl rfl (fun j hj => by rcases (show j = 0 ∨ j = 1 ∨ j = 2 by omega) with rfl | rfl | rfl <;> rfl) (by show _ ≤ 74; omega) (by show _ ≤ 1824; omega) dX8_init_180 (fun q => ?_)
    show V p l e rmX8_init s m args below meth c 2 A (GE (D, cA, ad, ids, []) (([] : va_W) ++ [(q, .inr (3, [.null, .int 0, .int 0]))])) xY (18 + 2 * i + 1) (284 + 43 * i + 3) Q σ 183 [(0, .ref (ad 0)), (1, .int (nI i))] [.ref q, .int (nI i), .ref (ad 15)]
    refine v_dup (G := GE (D, cA, ad, ids, []) (([] : va_W) ++ [(q, .inr (3, [.null, .int 0, .int 0]))])) (va := .ref q) hC dX8_init_183 rfl ?_
    refine v_callIN (G := GE (D, cA, ad, ids, []) (([] : va_W) ++ [(q, .inr (3, [.null, .int 0, .int 0]))])) (R := rmX8_init) (cells := 18 + 2 * i + 1) (slots := 284 + 43 * i + 3) (mc := 1) (ms := 40) (st := [.ref q, .int (nI i), .ref (ad 15)]) hC xE_ok (n := 0) (As := []) (k_X3_init l (G := (D, cA, ad, ids, [])) (ex0 := [])) ⟨va_cnB 0 hC.1.2.2.2.2 ggX8_init_X3_init rfl rfl rfl (xE_nm5 hC.2.2.2.2.2) (hC.1.2.2.2.2 _ nw72_xl.2.2) (by decide +kernel) ⟨(Nat.le_of_ble_eq_true rfl), (Nat.le_of_ble_eq_true rfl)⟩, rfl, hC.1.2.2.2.2 _ in_xl.1⟩ rfl (Nat.le_of_ble_eq_true rfl) ⟨by show _ ≤ 74; omega, by show _ ≤ 1824; omega⟩ dX8_init_184 rfl (fun u => ?_)
    obtain ⟨j, ej⟩ : ∃ z, z = 44 + 2 * i := ⟨_, rfl⟩
    have hk := xKs.1 i hi4
    rw [← ej] at hk
    have hne : ∀ k, k ∈ ids → k ≠ j ∧ k ≠ j + 1 := by
      intro k hk2
      have := (hm k).mp hk2
      unfold iS at this
      omega
    refine V.absorb (G := (D, cA, ad, ids, [])) (js := [j, j + 1]) (ad' := up2 ad j q u.1) (σ' := mkSheet σ j) hG (fun k hk2 => by simp [up2, (hne k hk2).1, (hne k hk2).2]) (fun k hk2 => mkSheet_ne σ j k (hne k hk2).1 (hne k hk2).2) (ex_sheet hk.1 hk.2.1 hk.2.2) (fun k hk2 n => ?_) ?_
    · have : 19 ≤ k := by
        simp only [List.mem_cons, List.not_mem_nil, or_false] at hk2
        omega
      exact hR k n this
    have hids : ∀ k, k ∈ ids ++ [j, j + 1] ↔ iS (i + 1) 0 0 k := by
      intro k
      rw [List.mem_append, hm k]
      simp only [List.mem_cons, List.not_mem_nil, or_false]
      unfold iS
      omega
    have aa : up2 ad j q u.1 0 = ad 0 ∧ up2 ad j q u.1 15 = ad 15 ∧ up2 ad j q u.1 j = q := by
      refine ⟨?_, ?_, by simp [up2]⟩
      · rw [up2, if_neg (by omega), if_neg (by omega)]
      · rw [up2, if_neg (by omega), if_neg (by omega)]
    obtain ⟨ad1, had1⟩ : ∃ z, z = up2 ad j q u.1 := ⟨_, rfl⟩
    rw [← had1] at aa
    show V p l e rmX8_init s m args below meth c 2 A (D, cA, up2 ad j q u.1, ids ++ [j, j + 1], []) xY _ _ Q _ _ _ _
    rw [← had1]
    refine V.cast (L' := [(0, .ref (ad1 0)), (1, .int (nI i))]) (st' := [.ref (ad1 j), .int (nI i), .ref (ad1 15)]) (by rw [aa.1]) (by rw [aa.2.1, aa.2.2]) ?_
    have hG2 : GX (D, cA, ad1, ids ++ [j, j + 1], []) xY := GX_iS (by omega) (by decide) (by decide) hids
    have hO2 : Ob (D, cA, ad1, ids ++ [j, j + 1], []) xY 0 7 := ⟨(hids 0).mpr (Or.inl (by decide)), rfl⟩
    have hOj : Ob (D, cA, ad1, ids ++ [j, j + 1], []) xY j 3 := ⟨(hids j).mpr (by unfold iS; omega), hk.1⟩
    refine v_aast (G := (D, cA, ad1, ids ++ [j, j + 1], [])) (t0 := 3) (ci := 3) (T := TX3) (N := 3) (C := RX3) hC (obX_7_15 hG2 hO2).1 (by decide) (obX_7_15 hG2 hO2).2 rfl hOj (by decide) rfl rfl b1 dX8_init_187 ?_
    refine v_iinc (v := nI (i + 1)) (L' := [(0, .ref (ad1 0)), (1, .int (nI (i + 1)))]) hC dX8_init_188 1 rfl b3 (by decide) [1, 0] rfl ?_
    refine v_goto (tgt := 170) hC dX8_init_191 (by decide) ?_
    rw [b2]
    rw [shL, ← ej] at h
    have := ih (i + 1) (by omega) ad1 (ids ++ [j, j + 1]) (sR (mkSheet σ j) 15 i (some j)) ⟨hids, aa.1.trans ha0, fun jj k hjj => ?_⟩ h
    · rw [show 18 + 2 * i + 1 + 1 = 18 + 2 * (i + 1) by omega, show 284 + 43 * i + 3 + 40 = 284 + 43 * (i + 1) by omega]
      exact this
    · rw [gR_sR, if_neg (by omega)]
      exact hR jj k hjj
set_option maxHeartbeats 4000000 in
set_option maxRecDepth 100000 in
theorem w_X8_init_196 {adK adV : Nat → Nat} {tb : Nat} {p : Program} {l : Launch} {e : Env} {s : State} {m : MethodId} {args : Array Value} {below : List Frame} {meth : Method} {c : Code} {A : Nat → Prop} {D : va_G} {cA : Nat → ClassId} {a0 : Nat} {τ : HS} {Q : State → Prop} (hC : Cx (xE adK adV tb) D cA xY cX8_init 2 none RX8 wsX8_init p s m args meth c A) (kk : ∀ (ad : Nat → Nat) (ids : List Nat), Sti D cA a0 ad ids 4 6 0 τ → V p l e rmX8_init s m args below meth c 2 A (D, cA, ad, ids, []) xY 50 1704 Q τ 221 [(0, .ref (ad 0)), (1, .int (nI 6))] []) : ∀ (n i : Nat), n + i = 6 → ∀ (ad : Nat → Nat) (ids : List Nat) (σ : HS), Sti D cA a0 ad ids 4 i 0 σ → txL n i σ = τ → V p l e rmX8_init s m args below meth c 2 A (D, cA, ad, ids, []) xY (26 + 4 * i) (456 + 208 * i) Q σ 196 [(0, .ref (ad 0)), (1, .int (nI i))] [] := by
  intro n
  induction n with
  | zero =>
    intro i hi ad ids σ hS h
    obtain rfl : i = 6 := by omega
    subst h
    refine v_iload_n hC dX8_init_196 1 rfl ?_
    refine v_bipush (v := 6) hC dX8_init_197 (by decide) ?_
    refine v_icmp_ge (tgt := 221) hC dX8_init_199 (by decide) (fun c_1 => ?_) (fun c_1 => absurd (show (6 : Int32) ≤ nI 6 by decide) c_1)
    exact kk ad ids hS
  | succ n ih =>
    intro i hi ad ids σ hS h
    have hi4 : i < 6 := by omega
    obtain ⟨b1, b2, b3⟩ := inb3 hi4 (by decide)
    obtain ⟨hm, ha0, hR⟩ := hS
    have hG : GX (D, cA, ad, ids, []) xY := GX_iS (by decide) (by omega) (by decide) hm
    have hO0 : Ob (D, cA, ad, ids, []) xY 0 7 := ⟨(hm 0).mpr (Or.inl (by decide)), rfl⟩
    refine v_iload_n hC dX8_init_196 1 rfl ?_
    refine v_bipush (v := 6) hC dX8_init_197 (by decide) ?_
    refine v_icmp_ge (tgt := 221) hC dX8_init_199 (by decide) (fun c_1 => ?_) (fun c_1 => ?_)
    · exfalso
      have : (6 : Int32) = nI 6 := by decide
      rw [this, nI_leI (by omega) (by omega)] at c_1
      omega
    refine v_aload_n hC dX8_init_202 0 rfl ?_
    refine v_get (G := (D, cA, ad, ids, [])) (C := RX8) (T := TX8) (N := 20) (ci := 7) (k := 11) (v := .ref (ad 11)) hC hO0 hi_X8_init_X8 rfl (by decide) (by decide) rfl rfl xf51_X8_init dX8_init_203 rfl ?_
    refine v_iload_n hC dX8_init_206 1 rfl ?_
    refine v_newX (G := (D, cA, ad, ids, [])) (ci := 6) (fs := [.null, .int 0, .null, .null, .int 0]) (C := RX6) (T := TX6) (N := 5) hC hr_xl.2.1 tyX6_ok nw49_xl rfl (fun j hj => by rcases (show j = 0 ∨ j = 1 ∨ j = 2 ∨ j = 3 ∨ j = 4 by omega) with rfl | rfl | rfl | rfl | rfl <;> rfl) (by show _ ≤ 74; omega) (by show _ ≤ 1824; omega) dX8_init_207 (fun q => ?_)
    show V p l e rmX8_init s m args below meth c 2 A (GE (D, cA, ad, ids, []) (([] : va_W) ++ [(q, .inr (6, [.null, .int 0, .null, .null, .int 0]))])) xY (26 + 4 * i + 1) (456 + 208 * i + 5) Q σ 210 [(0, .ref (ad 0)), (1, .int (nI i))] [.ref q, .int (nI i), .ref (ad 11)]
    refine v_dup (G := GE (D, cA, ad, ids, []) (([] : va_W) ++ [(q, .inr (6, [.null, .int 0, .null, .null, .int 0]))])) (va := .ref q) hC dX8_init_210 rfl ?_
    refine v_callIN (G := GE (D, cA, ad, ids, []) (([] : va_W) ++ [(q, .inr (6, [.null, .int 0, .null, .null, .int 0]))])) (R := rmX8_init) (cells := 26 + 4 * i + 1) (slots := 456 + 208 * i + 5) (mc := 3) (ms := 203) (st := [.ref q, .int (nI i), .ref (ad 11)]) hC xE_ok (n := 0) (As := []) (k_X6_init l (G := (D, cA, ad, ids, [])) (ex0 := [])) ⟨va_cnB 0 hC.1.2.2.2.2 ggX8_init_X6_init rfl rfl rfl (xE_nm6 hC.2.2.2.2.2) (hC.1.2.2.2.2 _ nw49_xl.2.2) (by decide +kernel) ⟨(Nat.le_of_ble_eq_true rfl), (Nat.le_of_ble_eq_true rfl)⟩, rfl, hC.1.2.2.2.2 _ in_xl.2.1⟩ rfl (Nat.le_of_ble_eq_true rfl) ⟨by show _ ≤ 74; omega, by show _ ≤ 1824; omega⟩ dX8_init_211 rfl (fun u => ?_)
    obtain ⟨j, ej⟩ : ∃ z, z = 20 + 4 * i := ⟨_, rfl⟩
    have hk := xKs.2.1 i hi4
    rw [← ej] at hk
    have hne : ∀ k, k ∈ ids → k ≠ j ∧ k ≠ j + 1 ∧ k ≠ j + 2 ∧ k ≠ j + 3 := by
      intro k hk2
      have := (hm k).mp hk2
      unfold iS at this
      omega
    refine V.absorb (G := (D, cA, ad, ids, [])) (js := [j, j + 1, j + 2, j + 3]) (ad' := up4 ad j q u.1 u.2.1 u.2.2) (σ' := mkText σ j) hG (fun k hk2 => by simp [up4, (hne k hk2).1, (hne k hk2).2.1, (hne k hk2).2.2.1, (hne k hk2).2.2.2]) (fun k hk2 => mkText_ne σ j k (hne k hk2).1 (hne k hk2).2.1 (hne k hk2).2.2.1 (hne k hk2).2.2.2) (ex_text hk.1 hk.2.1 hk.2.2.1 hk.2.2.2) (fun k hk2 n => ?_) ?_
    · have : 19 ≤ k := by
        simp only [List.mem_cons, List.not_mem_nil, or_false] at hk2
        omega
      exact hR k n this
    have hids : ∀ k, k ∈ ids ++ [j, j + 1, j + 2, j + 3] ↔ iS 4 (i + 1) 0 k := by
      intro k
      rw [List.mem_append, hm k]
      simp only [List.mem_cons, List.not_mem_nil, or_false]
      unfold iS
      omega
    have aa : up4 ad j q u.1 u.2.1 u.2.2 0 = ad 0 ∧ up4 ad j q u.1 u.2.1 u.2.2 11 = ad 11 ∧ up4 ad j q u.1 u.2.1 u.2.2 j = q := by
      refine ⟨?_, ?_, by simp [up4]⟩
      · rw [up4, if_neg (by omega), if_neg (by omega), if_neg (by omega), if_neg (by omega)]
      · rw [up4, if_neg (by omega), if_neg (by omega), if_neg (by omega), if_neg (by omega)]
    obtain ⟨ad1, had1⟩ : ∃ z, z = up4 ad j q u.1 u.2.1 u.2.2 := ⟨_, rfl⟩
    rw [← had1] at aa
    show V p l e rmX8_init s m args below meth c 2 A (D, cA, up4 ad j q u.1 u.2.1 u.2.2, ids ++ [j, j + 1, j + 2, j + 3], []) xY _ _ Q _ _ _ _
    rw [← had1]
    refine V.cast (L' := [(0, .ref (ad1 0)), (1, .int (nI i))]) (st' := [.ref (ad1 j), .int (nI i), .ref (ad1 11)]) (by rw [aa.1]) (by rw [aa.2.1, aa.2.2]) ?_
    have hG2 : GX (D, cA, ad1, ids ++ [j, j + 1, j + 2, j + 3], []) xY := GX_iS (by decide) (by omega) (by decide) hids
    have hO2 : Ob (D, cA, ad1, ids ++ [j, j + 1, j + 2, j + 3], []) xY 0 7 := ⟨(hids 0).mpr (Or.inl (by decide)), rfl⟩
    have hOj : Ob (D, cA, ad1, ids ++ [j, j + 1, j + 2, j + 3], []) xY j 6 := ⟨(hids j).mpr (by unfold iS; omega), hk.1⟩
    refine v_aast (G := (D, cA, ad1, ids ++ [j, j + 1, j + 2, j + 3], [])) (t0 := 4) (ci := 6) (T := TX6) (N := 5) (C := RX6) hC (obX_7_11 hG2 hO2).1 (by decide) (obX_7_11 hG2 hO2).2 rfl hOj (by decide) rfl rfl b1 dX8_init_214 ?_
    refine v_iinc (v := nI (i + 1)) (L' := [(0, .ref (ad1 0)), (1, .int (nI (i + 1)))]) hC dX8_init_215 1 rfl b3 (by decide) [1, 0] rfl ?_
    refine v_goto (tgt := 196) hC dX8_init_218 (by decide) ?_
    rw [b2]
    rw [txL, ← ej] at h
    have := ih (i + 1) (by omega) ad1 (ids ++ [j, j + 1, j + 2, j + 3]) (sR (mkText σ j) 11 i (some j)) ⟨hids, aa.1.trans ha0, fun jj k hjj => ?_⟩ h
    · rw [show 26 + 4 * i + 1 + 3 = 26 + 4 * (i + 1) by omega, show 456 + 208 * i + 5 + 203 = 456 + 208 * (i + 1) by omega]
      exact this
    · rw [gR_sR, if_neg (by omega)]
      exact hR jj k hjj
set_option maxHeartbeats 4000000 in
set_option maxRecDepth 100000 in
theorem w_X8_init_223 {adK adV : Nat → Nat} {tb : Nat} {p : Program} {l : Launch} {e : Env} {s : State} {m : MethodId} {args : Array Value} {below : List Frame} {meth : Method} {c : Code} {A : Nat → Prop} {D : va_G} {cA : Nat → ClassId} {a0 : Nat} {τ : HS} {Q : State → Prop} (hC : Cx (xE adK adV tb) D cA xY cX8_init 2 none RX8 wsX8_init p s m args meth c A) (kk : ∀ (ad : Nat → Nat) (ids : List Nat), Sti D cA a0 ad ids 4 6 12 τ → V p l e rmX8_init s m args below meth c 2 A (D, cA, ad, ids, []) xY 74 1824 Q τ 250 [(0, .ref (ad 0)), (1, .int (nI 12))] []) : ∀ (n i : Nat), n + i = 12 → ∀ (ad : Nat → Nat) (ids : List Nat) (σ : HS), Sti D cA a0 ad ids 4 6 i σ → plL n i σ = τ → V p l e rmX8_init s m args below meth c 2 A (D, cA, ad, ids, []) xY (50 + 2 * i) (1704 + 10 * i) Q σ 223 [(0, .ref (ad 0)), (1, .int (nI i))] [] := by
  intro n
  induction n with
  | zero =>
    intro i hi ad ids σ hS h
    obtain rfl : i = 12 := by omega
    subst h
    refine v_iload_n hC dX8_init_223 1 rfl ?_
    refine v_bipush (v := 12) hC dX8_init_224 (by decide) ?_
    refine v_icmp_ge (tgt := 250) hC dX8_init_226 (by decide) (fun c_1 => ?_) (fun c_1 => absurd (show (12 : Int32) ≤ nI 12 by decide) c_1)
    exact kk ad ids hS
  | succ n ih =>
    intro i hi ad ids σ hS h
    have hi4 : i < 12 := by omega
    obtain ⟨b1, b2, b3⟩ := inb3 hi4 (by decide)
    obtain ⟨hm, ha0, hR⟩ := hS
    have hG : GX (D, cA, ad, ids, []) xY := GX_iS (by decide) (by decide) (by omega) hm
    have hO0 : Ob (D, cA, ad, ids, []) xY 0 7 := ⟨(hm 0).mpr (Or.inl (by decide)), rfl⟩
    refine v_iload_n hC dX8_init_223 1 rfl ?_
    refine v_bipush (v := 12) hC dX8_init_224 (by decide) ?_
    refine v_icmp_ge (tgt := 250) hC dX8_init_226 (by decide) (fun c_1 => ?_) (fun c_1 => ?_)
    · exfalso
      have : (12 : Int32) = nI 12 := by decide
      rw [this, nI_leI (by omega) (by omega)] at c_1
      omega
    refine v_aload_n hC dX8_init_229 0 rfl ?_
    refine v_get (G := (D, cA, ad, ids, [])) (C := RX8) (T := TX8) (N := 20) (ci := 7) (k := 9) (v := .ref (ad 8)) hC hO0 hi_X8_init_X8 rfl (by decide) (by decide) rfl rfl xf39_X8_init dX8_init_230 rfl ?_
    refine v_iload_n hC dX8_init_233 1 rfl ?_
    refine v_newX (G := (D, cA, ad, ids, [])) (ci := 1) (fs := [.int 0, .int 0, .null]) (C := RX1) (T := TX1) (N := 3) hC hr_xl.2.2 tyX1_ok nw30_xl rfl (fun j hj => by rcases (show j = 0 ∨ j = 1 ∨ j = 2 by omega) with rfl | rfl | rfl <;> rfl) (by show _ ≤ 74; omega) (by show _ ≤ 1824; omega) dX8_init_234 (fun q => ?_)
    show V p l e rmX8_init s m args below meth c 2 A (GE (D, cA, ad, ids, []) (([] : va_W) ++ [(q, .inr (1, [.int 0, .int 0, .null]))])) xY (50 + 2 * i + 1) (1704 + 10 * i + 3) Q σ 237 [(0, .ref (ad 0)), (1, .int (nI i))] [.ref q, .int (nI i), .ref (ad 8)]
    refine v_dup (G := GE (D, cA, ad, ids, []) (([] : va_W) ++ [(q, .inr (1, [.int 0, .int 0, .null]))])) (va := .ref q) hC dX8_init_237 rfl ?_
    refine v_iconst (G := GE (D, cA, ad, ids, []) (([] : va_W) ++ [(q, .inr (1, [.int 0, .int 0, .null]))])) (v := 3) hC dX8_init_238 (by decide) ?_
    refine v_iload_n (L := [(0, .ref (ad 0)), (1, .int (nI i))]) (x := nI i) (G := GE (D, cA, ad, ids, []) (([] : va_W) ++ [(q, .inr (1, [.int 0, .int 0, .null]))])) hC dX8_init_239 1 rfl ?_
    refine v_callIX (G := GE (D, cA, ad, ids, []) (([] : va_W) ++ [(q, .inr (1, [.int 0, .int 0, .null]))])) (R := rmX8_init) (cells := 50 + 2 * i + 1) (slots := 1704 + 10 * i + 3) (mc := 1) (ms := 7) (st := [.ref q, .int (nI i), .ref (ad 8)]) hC xE_ok (n := 2) (As := [.int 3, .int (nI i)]) (k_X1_init l (G := (D, cA, ad, ids, [])) (ex0 := [])) (cwI 2 hC.1.2.2.2.2 gX8_init_X1_init rfl rfl rfl (hC.1.2.2.2.2 _ nw30_xl.2.2) (hC.1.2.2.2.2 _ in_xl.2.2.2) (hC.1.2.2.2.2 _ in_xl.2.2.1) rfl (by decide +kernel) ⟨Nat.le_of_ble_eq_true rfl, Nat.le_of_ble_eq_true rfl⟩) rfl (Nat.le_of_ble_eq_true rfl) ⟨by show _ ≤ 74; omega, by show _ ≤ 1824; omega⟩ dX8_init_240 rfl (fun u => ?_)
    obtain ⟨j, ej⟩ : ∃ z, z = 52 + 2 * i := ⟨_, rfl⟩
    have hk := xKs.2.2 i hi4
    rw [← ej] at hk
    have hne : ∀ k, k ∈ ids → k ≠ j ∧ k ≠ j + 1 := by
      intro k hk2
      have := (hm k).mp hk2
      unfold iS at this
      omega
    refine V.absorb (G := (D, cA, ad, ids, [])) (js := [j, j + 1]) (ad' := up2 ad j q u.1) (σ' := mkPlan σ j 3 (nI i)) hG (fun k hk2 => by simp [up2, (hne k hk2).1, (hne k hk2).2]) (fun k hk2 => mkPlan_ne σ j 3 (nI i) k (hne k hk2).1 (hne k hk2).2) (ex_plan hk.1 hk.2) (fun k hk2 n => ?_) ?_
    · have : 19 ≤ k := by
        simp only [List.mem_cons, List.not_mem_nil, or_false] at hk2
        omega
      exact hR k n this
    have hids : ∀ k, k ∈ ids ++ [j, j + 1] ↔ iS 4 6 (i + 1) k := by
      intro k
      rw [List.mem_append, hm k]
      simp only [List.mem_cons, List.not_mem_nil, or_false]
      unfold iS
      omega
    have aa : up2 ad j q u.1 0 = ad 0 ∧ up2 ad j q u.1 8 = ad 8 ∧ up2 ad j q u.1 j = q := by
      refine ⟨?_, ?_, by simp [up2]⟩
      · rw [up2, if_neg (by omega), if_neg (by omega)]
      · rw [up2, if_neg (by omega), if_neg (by omega)]
    obtain ⟨ad1, had1⟩ : ∃ z, z = up2 ad j q u.1 := ⟨_, rfl⟩
    rw [← had1] at aa
    show V p l e rmX8_init s m args below meth c 2 A (D, cA, up2 ad j q u.1, ids ++ [j, j + 1], []) xY _ _ Q _ _ _ _
    rw [← had1]
    refine V.cast (L' := [(0, .ref (ad1 0)), (1, .int (nI i))]) (st' := [.ref (ad1 j), .int (nI i), .ref (ad1 8)]) (by rw [aa.1]) (by rw [aa.2.1, aa.2.2]) ?_
    have hG2 : GX (D, cA, ad1, ids ++ [j, j + 1], []) xY := GX_iS (by decide) (by decide) (by omega) hids
    have hO2 : Ob (D, cA, ad1, ids ++ [j, j + 1], []) xY 0 7 := ⟨(hids 0).mpr (Or.inl (by decide)), rfl⟩
    have hOj : Ob (D, cA, ad1, ids ++ [j, j + 1], []) xY j 1 := ⟨(hids j).mpr (by unfold iS; omega), hk.1⟩
    refine v_aast (G := (D, cA, ad1, ids ++ [j, j + 1], [])) (t0 := 2) (ci := 1) (T := TX1) (N := 3) (C := RX1) hC (obX_7_9 hG2 hO2).1 (by decide) (obX_7_9 hG2 hO2).2 rfl hOj (by decide) rfl rfl b1 dX8_init_243 ?_
    refine v_iinc (v := nI (i + 1)) (L' := [(0, .ref (ad1 0)), (1, .int (nI (i + 1)))]) hC dX8_init_244 1 rfl b3 (by decide) [1, 0] rfl ?_
    refine v_goto (tgt := 223) hC dX8_init_247 (by decide) ?_
    rw [b2]
    rw [plL, ← ej] at h
    have := ih (i + 1) (by omega) ad1 (ids ++ [j, j + 1]) (sR (mkPlan σ j 3 (nI i)) 8 i (some j)) ⟨hids, aa.1.trans ha0, fun jj k hjj => ?_⟩ h
    · rw [show 50 + 2 * i + 1 + 1 = 50 + 2 * (i + 1) by omega, show 1704 + 10 * i + 3 + 7 = 1704 + 10 * (i + 1) by omega]
      exact this
    · rw [gR_sR, if_neg (by omega)]
      exact hR jj k hjj
