/-! THE CLAIM OUT OF ONE WALK OF THE LAW'S BODY. Your part is whole_start (and what it stands on); all else here is the same for every law, but numbers. -/
def R_law : String := "HundredBoxesLaw"
def lw_P (b : Addr) (xs : List Int32) (args : Array Value) (s : State) : Prop := args = #[.ref b] ∧ s.IntsAt b xs ∧ xs.length ≤ 3072 ∧ (Jvm.Cond.and given_1 narrow_1).before args s = true
def lw_Q (_ : Array Value) (s : State) (o : Outcome) (t : State) : Prop := o = .returned (some (.int 1)) ∧ Framed s o t [] 616682 7252203
def lw_Z (below : List Frame) (a : Array Value) (s : State) : State → Prop := fun t => ∃ o, t.status = .running ∧ Ended t below o ∧ lw_Q a s o t
/-- the law's own end, with 1 on the stack, nothing written that was there before, its room as the claim has it -/
theorem lw_ret {p : Program} {l : Launch} {e : Env} {s : State} {m : MethodId} {below : List Frame} {meth : Method} {c : Code} {b : Nat} (hx : p.tables.exec = Jvm.exec) (hb : c.code = code) (hr : meth.sig.returnType = ret) (hlocks : meth.locks = false) {pc : Nat} {H : Heap} {ls : Array Slot} (hdg : decode code pc = .ok (.ireturn, 1)) : W p l e room_1 s m #[Value.ref b] below meth c H [] 616682 7252203 (lw_Z below #[Value.ref b] s) (F0 m pc ls [.int 1]) := by
  intro T hT X
  obtain ⟨fs, hret, hrun, hended, hW, hframe⟩ := X.leave (v := some (.int 1)) (hlocks := hlocks) (fun h => by rw [hr] at h; cases h)
  have hmeth' : T.vm.method? m = some meth := X.method'
  refine ⟨T.setFrames fs, ?_, .returned (some (.int 1)), hrun, hended, rfl, ⟨_, rfl⟩, hW, hframe⟩
  jvm_step X.here [X.here.top, hx, hb, hdg, hmeth', hr, ret, narrow_b1]
  (try refine ⟨rfl, ?_⟩); (try refine ⟨rfl, ?_⟩)
  first | (intro acts; rw [hret _ acts rfl rfl rfl]) | rw [hret _ _ rfl rfl rfl]
  exact Steps.refl _
/-- what holds at the law's entry: the machine, the code, the tables' words (any of lw_tbl by 'hts w (by decide +kernel)'), the script of L ints xs at the cell b, what the Statement gives of the start (any of its parts by flat_of_before) -/
def lw_At (p : Program) (s : State) (m : MethodId) (meth : Method) (c : Code) (b L : Nat) (xs : Nat → Int32) : Prop :=
  p.tables.exec = Jvm.exec ∧ c.code = code ∧ meth.sig.returnType = ret ∧ c.maxLocals = 4 ∧ s.vm.findClass R_law = some m.cls ∧ (∀ w ∈ lw_tbl, w.before #[Value.ref b] s = true) ∧ va_X b L xs s s.heap ∧ b < s.heap.size ∧ meth.locks = false ∧ (Jvm.Cond.and given_1 narrow_1).before #[Value.ref b] s = true
theorem lw_and31 (x : Int32) : ∃ k : Nat, k < 32 ∧ x &&& 31 = nI k := by
  refine ⟨(x &&& 31).toBitVec.toNat, ?_, ?_⟩
  · have h : (x &&& 31).toBitVec.toNat = x.toBitVec.toNat &&& 31 := by
      rw [Int32.toBitVec_and, BitVec.toNat_and]
      rfl
    rw [h]
    exact Nat.lt_succ_of_le Nat.and_le_right
  · apply Int32.toBitVec_inj.mp
    show _ = BitVec.ofNat 32 _
    rw [BitVec.ofNat_toNat, BitVec.setWidth_eq]
theorem lw_more {N j : Nat} (hN : N ≤ 3072) (hj : 6 * j ≤ N) (h : ¬ Int32.ofNat N - 6 < nI (6 * j)) : 6 * j + 6 ≤ N := by
  by_cases c : 6 ≤ N
  · have e : Int32.ofNat N - 6 = nI (N - 6) := nI_sub (a := N) (b := 6) c
    rw [e, nI_ltI (by omega) (by omega)] at h
    omega
  · exfalso
    have hj0 : j = 0 := by omega
    subst hj0
    have : ∀ N, N < 6 → Int32.ofNat N - 6 < nI (6 * 0) := by decide
    exact h (this N (by omega))
theorem lw_vp {N j q : Nat} (hN : N ≤ 3072) (h : 6 * j + 6 ≤ N) (hq : q ≤ 5) : vp_in (nI (6 * j) + nI q) N := by
  rw [nI_add]
  exact nI_in (by omega) (by omega)
set_option maxHeartbeats 4000000 in
set_option maxRecDepth 100000 in
theorem lw_loop {adK adV : Nat → Nat} {tb : Nat} {p : Program} {l : Launch} {e : Env} {s : State} {m : MethodId} {below : List Frame} {meth : Method} {c : Code} {D : va_G} {cA : Nat → ClassId} {adm : Nat → Nat} {b N : Nat} {xs : Nat → Int32} (hN : N ≤ 3072) (hX : va_X b N xs s s.heap) (hbl : b < s.heap.size) (hCx : Cx (xE adK adV tb) D cA xY code 4 ret RL wsL_law p s m #[Value.ref b] meth c (lwA s)) (hCm : Cx mE D cA mY code 4 ret RL wsL_law p s m #[Value.ref b] meth c (lwA s)) : ∀ (n j : Nat), N < 6 * (j + n) → 6 * j ≤ N → ∀ (n0 : Nat) (ad : Nat → Nat) (ids : List Nat) (σ υ : HS), LI D cA ad ids adm n0 σ υ → V p l e room_1 s m #[Value.ref b] below meth c 4 (lwA s) (D, cA, ad, ids, wl (D, cA, adm, idM, []) mY υ) xY (100 + 18 * j) (4000 + 90 * j) (lw_Z below #[Value.ref b] s) σ 18 [(0, .ref b), (1, .ref (ad 0)), (2, .ref (adm 0)), (3, .int (nI (6 * j)))] [] := by
  have hbA : ¬ lwA s b := lwA_out b hbl
  intro n
  induction n with
  | zero => intro j h1 h2; omega
  | succ n ih =>
    intro j h1 h2 n0 ad ids σ υ hI
    refine v_iload_n hCx dL_law_18 3 rfl ?_
    refine v_aload_n hCx dL_law_19 0 rfl ?_
    refine v_slen hCx hX hbl hbA dL_law_20 ?_
    refine v_bipush (v := 6) hCx dL_law_21 (by decide) ?_
    refine v_isub hCx dL_law_23 ?_
    refine v_icmp_gt (tgt := 1182) hCx dL_law_24 (by decide) (fun c1 => ?_) (fun c1 => ?_)
    · refine v_iconst (v := 1) hCx dL_law_1182 (by decide) ?_
      refine V.widen (k := 616682) (n := 7252203) (by omega) (by omega) ?_
      exact fun H locs ls hW hS hl => va_forget (fun q hq => hS.2.2 q hq) (lw_ret hCx.1.1 hCx.1.2.1 hCx.2.1 hCx.2.2.1 dL_law_1183)
    · have h6 := lw_more hN h2 c1
      have v0 : vp_in (nI (6 * j)) N := nI_in (by omega) (by omega)
      have v1 : vp_in (nI (6 * j) + 1) N := lw_vp (q := 1) hN h6 (by omega)
      have v2 : vp_in (nI (6 * j) + 2) N := lw_vp (q := 2) hN h6 (by omega)
      have v3 : vp_in (nI (6 * j) + 3) N := lw_vp (q := 3) hN h6 (by omega)
      have v4 : vp_in (nI (6 * j) + 4) N := lw_vp (q := 4) hN h6 (by omega)
      have v5 : vp_in (nI (6 * j) + 5) N := lw_vp (q := 5) hN h6 (by omega)
      have hcs : 100 + 18 * j + 18 ≤ 616682 ∧ 4000 + 90 * j + 90 ≤ 7252203 := by omega
      have kk : ∀ (n' : Nat) (ad' : Nat → Nat) (ids' : List Nat) (σ' υ' : HS), LI D cA ad' ids' adm n' σ' υ' → V p l e room_1 s m #[Value.ref b] below meth c 4 (lwA s) (D, cA, ad', ids', wl (D, cA, adm, idM, []) mY υ') xY (100 + 18 * j + 18) (4000 + 90 * j + 90) (lw_Z below #[Value.ref b] s) σ' 1176 [(0, .ref b), (1, .ref (ad' 0)), (2, .ref (adm 0)), (3, .int (nI (6 * j)))] [] := by
        intro n' ad' ids' σ' υ' hI'
        refine v_iinc (v := nI (6 * (j + 1))) (L' := [(0, .ref b), (1, .ref (ad' 0)), (2, .ref (adm 0)), (3, .int (nI (6 * (j + 1))))]) hCx dL_law_1176 3 rfl (nI_add (6 * j) 6) (by decide) [1, 2, 3, 0] rfl ?_
        refine v_goto (tgt := 18) hCx dL_law_1179 (by decide) ?_
        have := ih (j + 1) (by omega) (by omega) n' ad' ids' σ' υ' hI'
        rw [show 100 + 18 * (j + 1) = 100 + 18 * j + 18 by omega, show 4000 + 90 * (j + 1) = 4000 + 90 * j + 90 by omega] at this
        exact this
      refine v_aload_n hCx dL_law_27 0 rfl ?_
      refine v_iload_n hCx dL_law_28 3 rfl ?_
      refine v_sld hCx hX hbl hbA v0 dL_law_29 ?_
      refine v_bipush (v := 31) hCx dL_law_30 (by decide) ?_
      refine v_iand hCx dL_law_32 ?_
      obtain ⟨k, hk, ek⟩ := lw_and31 (xs (nI (6 * j)).toNatClampNeg)
      rw [ek]
      match k, hk with
      | 0, _ => exact v_tableIn (off := 143) (tgt := 176) hCx dL_law_33 (by decide) (by decide) (by decide) (by decide) (lw_case0 hX hbl hbA hCx hCm hI v1 v2 v3 v4 v5 hcs kk)
      | 1, _ => exact v_tableIn (off := 166) (tgt := 199) hCx dL_law_33 (by decide) (by decide) (by decide) (by decide) (lw_case1 hX hbl hbA hCx hCm hI v1 v2 v3 v4 v5 hcs kk)
      | 2, _ => exact v_tableIn (off := 189) (tgt := 222) hCx dL_law_33 (by decide) (by decide) (by decide) (by decide) (lw_case2 hX hbl hbA hCx hCm hI v1 v2 v3 v4 v5 hcs kk)
      | 3, _ => exact v_tableIn (off := 212) (tgt := 245) hCx dL_law_33 (by decide) (by decide) (by decide) (by decide) (lw_case3 hX hbl hbA hCx hCm hI v1 v2 v3 v4 v5 hcs kk)
      | 4, _ => exact v_tableIn (off := 245) (tgt := 278) hCx dL_law_33 (by decide) (by decide) (by decide) (by decide) (lw_case4 hX hbl hbA hCx hCm hI v1 v2 v3 v4 v5 hcs kk)
      | 5, _ => exact v_tableIn (off := 268) (tgt := 301) hCx dL_law_33 (by decide) (by decide) (by decide) (by decide) (lw_case5 hX hbl hbA hCx hCm hI v1 v2 v3 v4 v5 hcs kk)
      | 6, _ => exact v_tableIn (off := 301) (tgt := 334) hCx dL_law_33 (by decide) (by decide) (by decide) (by decide) (lw_case6 hX hbl hbA hCx hCm hI v1 v2 v3 v4 v5 hcs kk)
      | 7, _ => exact v_tableIn (off := 324) (tgt := 357) hCx dL_law_33 (by decide) (by decide) (by decide) (by decide) (lw_case7 hX hbl hbA hCx hCm hI v1 v2 v3 v4 v5 hcs kk)
      | 8, _ => exact v_tableIn (off := 387) (tgt := 420) hCx dL_law_33 (by decide) (by decide) (by decide) (by decide) (lw_case8 hX hbl hbA hCx hCm hI v1 v2 v3 v4 v5 hcs kk)
      | 9, _ => exact v_tableIn (off := 400) (tgt := 433) hCx dL_law_33 (by decide) (by decide) (by decide) (by decide) (lw_case9 hX hbl hbA hCx hCm hI v1 v2 v3 v4 v5 hcs kk)
      | 10, _ => exact v_tableIn (off := 423) (tgt := 456) hCx dL_law_33 (by decide) (by decide) (by decide) (by decide) (lw_case10 hX hbl hbA hCx hCm hI v1 v2 v3 v4 v5 hcs kk)
      | 11, _ => exact v_tableIn (off := 436) (tgt := 469) hCx dL_law_33 (by decide) (by decide) (by decide) (by decide) (lw_case11 hX hbl hbA hCx hCm hI v1 v2 v3 v4 v5 hcs kk)
      | 12, _ => exact v_tableIn (off := 469) (tgt := 502) hCx dL_law_33 (by decide) (by decide) (by decide) (by decide) (lw_case12 hX hbl hbA hCx hCm hI v1 v2 v3 v4 v5 hcs kk)
      | 13, _ => exact v_tableIn (off := 522) (tgt := 555) hCx dL_law_33 (by decide) (by decide) (by decide) (by decide) (lw_case13 hX hbl hbA hCx hCm hI v1 v2 v3 v4 v5 hcs kk)
      | 14, _ => exact v_tableIn (off := 555) (tgt := 588) hCx dL_law_33 (by decide) (by decide) (by decide) (by decide) (lw_case14 hX hbl hbA hCx hCm hI v1 v2 v3 v4 v5 hcs kk)
      | 15, _ => exact v_tableIn (off := 588) (tgt := 621) hCx dL_law_33 (by decide) (by decide) (by decide) (by decide) (lw_case15 hX hbl hbA hCx hCm hI v1 v2 v3 v4 v5 hcs kk)
      | 16, _ => exact v_tableIn (off := 622) (tgt := 655) hCx dL_law_33 (by decide) (by decide) (by decide) (by decide) (lw_case16 hX hbl hbA hCx hCm hI v1 v2 v3 v4 v5 hcs kk)
      | 17, _ => exact v_tableIn (off := 656) (tgt := 689) hCx dL_law_33 (by decide) (by decide) (by decide) (by decide) (lw_case17 hX hbl hbA hCx hCm hI v1 v2 v3 v4 v5 hcs kk)
      | 18, _ => exact v_tableIn (off := 690) (tgt := 723) hCx dL_law_33 (by decide) (by decide) (by decide) (by decide) (lw_case18 hX hbl hbA hCx hCm hI v1 v2 v3 v4 v5 hcs kk)
      | 19, _ => exact v_tableIn (off := 723) (tgt := 756) hCx dL_law_33 (by decide) (by decide) (by decide) (by decide) (lw_case19 hX hbl hbA hCx hCm hI v1 v2 v3 v4 v5 hcs kk)
      | 20, _ => exact v_tableIn (off := 746) (tgt := 779) hCx dL_law_33 (by decide) (by decide) (by decide) (by decide) (lw_case20 hX hbl hbA hCx hCm hI v1 v2 v3 v4 v5 hcs kk)
      | 21, _ => exact v_tableIn (off := 770) (tgt := 803) hCx dL_law_33 (by decide) (by decide) (by decide) (by decide) (lw_case21 hX hbl hbA hCx hCm hI v1 v2 v3 v4 v5 hcs kk)
      | 22, _ => exact v_tableIn (off := 793) (tgt := 826) hCx dL_law_33 (by decide) (by decide) (by decide) (by decide) (lw_case22 hX hbl hbA hCx hCm hI v1 v2 v3 v4 v5 hcs kk)
      | 23, _ => exact v_tableIn (off := 826) (tgt := 859) hCx dL_law_33 (by decide) (by decide) (by decide) (by decide) (lw_case23 hX hbl hbA hCx hCm hI v1 v2 v3 v4 v5 hcs kk)
      | 24, _ => exact v_tableIn (off := 859) (tgt := 892) hCx dL_law_33 (by decide) (by decide) (by decide) (by decide) (lw_case24 hX hbl hbA hCx hCm hI v1 v2 v3 v4 v5 hcs kk)
      | 25, _ => exact v_tableIn (off := 872) (tgt := 905) hCx dL_law_33 (by decide) (by decide) (by decide) (by decide) (lw_case25 hX hbl hbA hCx hCm hI v1 v2 v3 v4 v5 hcs kk)
      | 26, _ => exact v_tableIn (off := 885) (tgt := 918) hCx dL_law_33 (by decide) (by decide) (by decide) (by decide) (lw_case26 hX hbl hbA hCx hCm hI v1 v2 v3 v4 v5 hcs kk)
      | 27, _ => exact v_tableIn (off := 908) (tgt := 941) hCx dL_law_33 (by decide) (by decide) (by decide) (by decide) (lw_case27 hX hbl hbA hCx hCm hI v1 v2 v3 v4 v5 hcs kk)
      | 28, _ => exact v_tableIn (off := 951) (tgt := 984) hCx dL_law_33 (by decide) (by decide) (by decide) (by decide) (lw_case28 hX hbl hbA hCx hCm hI v1 v2 v3 v4 v5 hcs kk)
      | 29, _ => exact v_tableIn (off := 994) (tgt := 1027) hCx dL_law_33 (by decide) (by decide) (by decide) (by decide) (lw_case29 hX hbl hbA hCx hCm hI v1 v2 v3 v4 v5 hcs kk)
      | 30, _ => exact v_tableIn (off := 1057) (tgt := 1090) hCx dL_law_33 (by decide) (by decide) (by decide) (by decide) (lw_case30 hX hbl hbA hCx hCm hI v1 v2 v3 v4 v5 hcs kk)
      | 31, _ => exact v_tableIn (off := 1110) (tgt := 1143) hCx dL_law_33 (by decide) (by decide) (by decide) (by decide) (lw_case31 hX hbl hbA hCx hCm hI v1 v2 v3 v4 v5 hcs kk)
      | k + 32, hk => exact absurd hk (by omega)
theorem lw_nw8 : Cond.classLink RL 7 RX8 ∈ wsL_law ∧ Cond.instantiable RX8 20 ∈ wsL_law ∧ Cond.initialized RX8 ∈ wsL_law := by decide +kernel
theorem lw_nw9 : Cond.classLink RL 10 RX9 ∈ wsL_law ∧ Cond.instantiable RX9 45 ∈ wsL_law ∧ Cond.initialized RX9 ∈ wsL_law := by decide +kernel
theorem lw_in : (Cond.methodLink RL 9 yX8_init ∈ wsL_law ∧ Cond.instanceMethod yX8_init ∈ wsL_law) ∧ Cond.methodLink RL 12 yX9_init ∈ wsL_law ∧ Cond.instanceMethod yX9_init ∈ wsL_law := by decide +kernel
theorem lw_raw8 : ∀ j, j < 20 → defaultValue (tyX8 j) = vp_V [.null, .int 0, .int 0, .null, .int 0, .int 0, .int 0, .null, .int 0, .null, .null, .null, .int 0, .null, .null, .null, .null, .null, .null, .null] j := by
  intro j hj
  match j, hj with
  | 0, _ => exact rfl
  | 1, _ => exact rfl
  | 2, _ => exact rfl
  | 3, _ => exact rfl
  | 4, _ => exact rfl
  | 5, _ => exact rfl
  | 6, _ => exact rfl
  | 7, _ => exact rfl
  | 8, _ => exact rfl
  | 9, _ => exact rfl
  | 10, _ => exact rfl
  | 11, _ => exact rfl
  | 12, _ => exact rfl
  | 13, _ => exact rfl
  | 14, _ => exact rfl
  | 15, _ => exact rfl
  | 16, _ => exact rfl
  | 17, _ => exact rfl
  | 18, _ => exact rfl
  | 19, _ => exact rfl
  | k + 20, hk => exact absurd hk (by omega)
theorem lw_raw9 : ∀ j, j < 45 → defaultValue (tyX9 j) = vp_V [.int 0, .null, .null, .int 0, .int 0, .null, .int 0, .null, .int 0, .int 0, .int 0, .int 0, .int 0, .int 0, .int 0, .int 0, .int 0, .long 0, .int 0, .int 0, .int 0, .int 0, .int 0, .int 0, .null, .null, .int 0, .int 0, .int 0, .int 0, .null, .null, .long 0, .long 0, .int 0, .int 0, .null, .int 0, .int 0, .int 0, .int 0, .null, .null, .null, .null] j := by
  intro j hj
  match j, hj with
  | 0, _ => exact rfl
  | 1, _ => exact rfl
  | 2, _ => exact rfl
  | 3, _ => exact rfl
  | 4, _ => exact rfl
  | 5, _ => exact rfl
  | 6, _ => exact rfl
  | 7, _ => exact rfl
  | 8, _ => exact rfl
  | 9, _ => exact rfl
  | 10, _ => exact rfl
  | 11, _ => exact rfl
  | 12, _ => exact rfl
  | 13, _ => exact rfl
  | 14, _ => exact rfl
  | 15, _ => exact rfl
  | 16, _ => exact rfl
  | 17, _ => exact rfl
  | 18, _ => exact rfl
  | 19, _ => exact rfl
  | 20, _ => exact rfl
  | 21, _ => exact rfl
  | 22, _ => exact rfl
  | 23, _ => exact rfl
  | 24, _ => exact rfl
  | 25, _ => exact rfl
  | 26, _ => exact rfl
  | 27, _ => exact rfl
  | 28, _ => exact rfl
  | 29, _ => exact rfl
  | 30, _ => exact rfl
  | 31, _ => exact rfl
  | 32, _ => exact rfl
  | 33, _ => exact rfl
  | 34, _ => exact rfl
  | 35, _ => exact rfl
  | 36, _ => exact rfl
  | 37, _ => exact rfl
  | 38, _ => exact rfl
  | 39, _ => exact rfl
  | 40, _ => exact rfl
  | 41, _ => exact rfl
  | 42, _ => exact rfl
  | 43, _ => exact rfl
  | 44, _ => exact rfl
  | k + 45, hk => exact absurd hk (by omega)
set_option maxHeartbeats 4000000 in
set_option maxRecDepth 100000 in
theorem lw_st2 {adK adV : Nat → Nat} {tb : Nat} {p : Program} {l : Launch} {e : Env} {s : State} {m : MethodId} {below : List Frame} {meth : Method} {c : Code} {D : va_G} {cA : Nat → ClassId} {b N : Nat} {xs : Nat → Int32} {σ0 υ0 : HS} (hN : N ≤ 3072) (hX : va_X b N xs s s.heap) (hbl : b < s.heap.size) (hCx : Cx (xE adK adV tb) D cA xY code 4 ret RL wsL_law p s m #[Value.ref b] meth c (lwA s)) (hCm : Cx mE D cA mY code 4 ret RL wsL_law p s m #[Value.ref b] meth c (lwA s)) (eM : c_X9_init = some υ0) (hR : RelE 0 σ0 υ0) (ad : Nat → Nat) (ids : List Nat) (hids : ∀ k, k ∈ ids ↔ xS 0 k) : V p l e room_1 s m #[Value.ref b] below meth c 4 (lwA s) (D, cA, ad, ids, []) xY 75 1844 (lw_Z below #[Value.ref b] s) σ0 8 [(0, .ref b), (1, .ref (ad 0))] [] := by
  refine v_newX (G := (D, cA, ad, ids, [])) (ci := 8) (fs := [.int 0, .null, .null, .int 0, .int 0, .null, .int 0, .null, .int 0, .int 0, .int 0, .int 0, .int 0, .int 0, .int 0, .int 0, .int 0, .long 0, .int 0, .int 0, .int 0, .int 0, .int 0, .int 0, .null, .null, .int 0, .int 0, .int 0, .int 0, .null, .null, .long 0, .long 0, .int 0, .int 0, .null, .int 0, .int 0, .int 0, .int 0, .null, .null, .null, .null]) (C := RX9) (T := TX9) (N := 45) hCx inlX9 tyX9_ok lw_nw9 rfl lw_raw9 (Nat.le_of_ble_eq_true rfl) (Nat.le_of_ble_eq_true rfl) dL_law_8 (fun q => ?_)
  show V p l e room_1 s m #[Value.ref b] below meth c 4 (lwA s) (D, cA, ad, ids, [(q, .inr (8, [.int 0, .null, .null, .int 0, .int 0, .null, .int 0, .null, .int 0, .int 0, .int 0, .int 0, .int 0, .int 0, .int 0, .int 0, .int 0, .long 0, .int 0, .int 0, .int 0, .int 0, .int 0, .int 0, .null, .null, .int 0, .int 0, .int 0, .int 0, .null, .null, .long 0, .long 0, .int 0, .int 0, .null, .int 0, .int 0, .int 0, .int 0, .null, .null, .null, .null]))]) xY 76 1889 (lw_Z below #[Value.ref b] s) σ0 11 [(0, .ref b), (1, .ref (ad 0))] [.ref q]
  refine v_dup (G := (D, cA, ad, ids, [(q, .inr (8, [.int 0, .null, .null, .int 0, .int 0, .null, .int 0, .null, .int 0, .int 0, .int 0, .int 0, .int 0, .int 0, .int 0, .int 0, .int 0, .long 0, .int 0, .int 0, .int 0, .int 0, .int 0, .int 0, .null, .null, .int 0, .int 0, .int 0, .int 0, .null, .null, .long 0, .long 0, .int 0, .int 0, .null, .int 0, .int 0, .int 0, .int 0, .null, .null, .null, .null]))])) (va := .ref q) hCx dL_law_11 rfl ?_
  intro H locs ls hW hS hl
  obtain ⟨hP, hD, hT⟩ := hW
  rw [wl_ex] at hP hD
  refine w_callN2 (Wl := fun u : Nat → Nat => wl (D, cA, u, idM, []) mY υ0) (Wt := fun u => wt (D, cA, u, idM, []) mY υ0) (ad := fun _ => 0) (st := [.ref q]) hCm mE_ok (k_X9_init l (G := (D, cA, fun _ => 0, [], [])) (h0 := q) rfl eM) (cwI 0 hCm.1.2.2.2.2 gL_law_X9_init rfl rfl rfl (hCm.1.2.2.2.2 _ lw_nw9.2.2) (hCm.1.2.2.2.2 _ lw_in.2.1) (hCm.1.2.2.2.2 _ lw_in.2.2) rfl (by decide +kernel) ⟨(Nat.le_of_ble_eq_true rfl), (Nat.le_of_ble_eq_true rfl)⟩) (Nat.le_of_ble_eq_true rfl) ⟨(Nat.le_of_ble_eq_true rfl), (Nat.le_of_ble_eq_true rfl)⟩ dL_law_12 (fun u t hB => ⟨hB.1.1, hB.1.2.1, hB.1.2.2⟩) hP hD hS hl (fun u H1 locs1 hu hP1 hD1 hw hS1 => ?_)
  have go : V p l e room_1 s m #[Value.ref b] below meth c 4 (lwA s) (D, cA, ad, ids, wl (D, cA, u, idM, []) mY υ0) xY 89 3252 (lw_Z below #[Value.ref b] s) σ0 15 [(0, .ref b), (1, .ref (ad 0))] [.ref q] := by
    refine v_astore_n (L' := [(0, .ref b), (1, .ref (ad 0)), (2, .ref (u 0))]) hCx dL_law_15 (by decide) [1, 2, 0] (by rw [hu]; rfl) ?_
    refine v_iconst (v := 0) hCx dL_law_16 (by decide) ?_
    refine v_istore_n (L' := [(0, .ref b), (1, .ref (ad 0)), (2, .ref (u 0)), (3, .int (nI (6 * 0)))]) hCx dL_law_17 (by decide) [1, 2, 3, 0] rfl ?_
    exact V.widen (by omega) (by omega) (lw_loop hN hX hbl hCx hCm (N + 1) 0 (by omega) (by omega) 0 ad ids σ0 υ0 ⟨hR, hids, hw⟩)
  have e1 := wl_ex (D := D) (cA := cA) (ad := ad) (ids := ids) (ex := wl (D, cA, u, idM, []) mY υ0) (Y := xY) (σ := σ0)
  exact go H1 locs1 ls ⟨by rw [e1]; exact hP1, by rw [e1]; exact hD1, wt_ex hT⟩ hS1 hl
set_option maxHeartbeats 4000000 in
set_option maxRecDepth 100000 in
theorem lw_st1 {adK adV : Nat → Nat} {tb : Nat} {p : Program} {l : Launch} {e : Env} {s : State} {m : MethodId} {below : List Frame} {meth : Method} {c : Code} {D : va_G} {cA : Nat → ClassId} {b N : Nat} {xs : Nat → Int32} {σ0 υ0 : HS} (hN : N ≤ 3072) (hX : va_X b N xs s s.heap) (hbl : b < s.heap.size) (hCx : Cx (xE adK adV tb) D cA xY code 4 ret RL wsL_law p s m #[Value.ref b] meth c (lwA s)) (hCm : Cx mE D cA mY code 4 ret RL wsL_law p s m #[Value.ref b] meth c (lwA s)) (eX : c_X8_init = some σ0) (eM : c_X9_init = some υ0) (hR : RelE 0 σ0 υ0) (q : Nat) : V p l e room_1 s m #[Value.ref b] below meth c 4 (lwA s) (D, cA, fun _ => 0, [], [(q, .inr (7, [.null, .int 0, .int 0, .null, .int 0, .int 0, .int 0, .null, .int 0, .null, .null, .null, .int 0, .null, .null, .null, .null, .null, .null, .null]))]) xY 1 20 (lw_Z below #[Value.ref b] s) z0 3 [(0, .ref b)] [.ref q] := by
  obtain ⟨_, h8, hgr⟩ := RelE_8 hR
  refine v_dup (G := (D, cA, fun _ => 0, [], [(q, .inr (7, [.null, .int 0, .int 0, .null, .int 0, .int 0, .int 0, .null, .int 0, .null, .null, .null, .int 0, .null, .null, .null, .null, .null, .null, .null]))])) (va := .ref q) hCx dL_law_3 rfl ?_
  intro H locs ls hW hS hl
  obtain ⟨hP, hD, hT⟩ := hW
  refine w_callN2 (M := []) (Wl := fun u : (Nat → Nat) × List Nat => wl (D, cA, u.1, u.2, []) xY σ0) (Wt := fun u => wt (D, cA, u.1, u.2, []) xY σ0) (ad := fun _ => 0) (st := [.ref q]) hCx xE_ok (k_X8_init l (G := (D, cA, fun _ => 0, [], [])) (h0 := q) rfl ⟨h8, hgr⟩ eX) (cwI 0 hCx.1.2.2.2.2 gL_law_X8_init rfl rfl rfl (hCx.1.2.2.2.2 _ lw_nw8.2.2) (hCx.1.2.2.2.2 _ lw_in.1.1) (hCx.1.2.2.2.2 _ lw_in.1.2) rfl (by decide +kernel) ⟨(Nat.le_of_ble_eq_true rfl), (Nat.le_of_ble_eq_true rfl)⟩) (Nat.le_of_ble_eq_true rfl) ⟨(Nat.le_of_ble_eq_true rfl), (Nat.le_of_ble_eq_true rfl)⟩ dL_law_4 (fun u t hB => ⟨hB.1.1, hB.1.2.1, hB.1.2.2⟩) hP hD hS hl (fun u H1 locs1 hu hP1 hD1 hw hS1 => ?_)
  have hi : ∀ k, k ∈ u.2 ↔ xS 0 k := by
    have := hu.2.2.2.1
    rw [h8] at this
    exact this
  have go : V p l e room_1 s m #[Value.ref b] below meth c 4 (lwA s) (D, cA, u.1, u.2, []) xY 75 1844 (lw_Z below #[Value.ref b] s) σ0 7 [(0, .ref b)] [.ref q] := by
    refine v_astore_n (L' := [(0, .ref b), (1, .ref (u.1 0))]) hCx dL_law_7 (by decide) [1, 0] (by rw [hu.1]; rfl) ?_
    exact lw_st2 hN hX hbl hCx hCm eM hR u.1 u.2 hi
  exact go H1 locs1 ls ⟨hP1, hD1, hw⟩ hS1 hl
set_option maxHeartbeats 4000000 in
set_option maxRecDepth 100000 in
theorem whole_start {p : Program} {e : Env} {s : State} {m : MethodId} {below : List Frame} {meth : Method} {c : Code} (l : Launch) (hflags : l.flags = flags0) {b L : Nat} {xs : Nat → Int32} (hL : L ≤ 3072) (C0 : lw_At p s m meth c b L xs) : W p l e room_1 s m #[Value.ref b] below meth c s.heap [] 0 0 (lw_Z below #[Value.ref b] s) (entryFrame m ([Value.ref b] : List Value).toArray 4) := by
  obtain ⟨hx, hb, hr, hml, hown, hts, hX, hbl, hlocks, hgv⟩ := C0
  obtain ⟨adK, adV, tb, hE⟩ := law_env hts hgv
  obtain ⟨D, cA, hKx, hKm⟩ := law_K hts
  have hws : ∀ w ∈ wsL_law, w.before #[Value.ref b] s = true := fun w hw => hts w (wsL_law_in w hw)
  have hCx : Cx (xE adK adV tb) D cA xY code 4 ret RL wsL_law p s m #[Value.ref b] meth c (lwA s) := ⟨⟨hx, hb, hml, hown, hws⟩, hr, hlocks, hKx, fun q h => h, hE⟩
  have hCm : Cx mE D cA mY code 4 ret RL wsL_law p s m #[Value.ref b] meth c (lwA s) := ⟨⟨hx, hb, hml, hown, hws⟩, hr, hlocks, hKm, fun q h => h, trivial⟩
  obtain ⟨σ0, υ0, eX, eM, hR⟩ := first_rel
  obtain ⟨_, h8, hgr⟩ := RelE_8 hR
  have hl := lv_entry ([.ref b]) (n := 4) (Nat.le_of_ble_eq_true rfl)
  rw [lg_entry_eq]
  generalize (lg_sl ([.ref b]) ++ List.replicate (4 - (lg_sl ([.ref b])).length) Slot.unset).toArray = ls at hl ⊢
  have hl : lv_has ls 4 [(0, .ref b)] := hl
  have start : V p l e room_1 s m #[Value.ref b] below meth c 4 (lwA s) (D, cA, fun _ => 0, [], []) xY 0 0 (lw_Z below #[Value.ref b] s) z0 0 [(0, .ref b)] [] := by
    refine v_newX (G := (D, cA, fun _ => 0, [], [])) (ci := 7) (fs := [.null, .int 0, .int 0, .null, .int 0, .int 0, .int 0, .null, .int 0, .null, .null, .null, .int 0, .null, .null, .null, .null, .null, .null, .null]) (C := RX8) (T := TX8) (N := 20) hCx inlX8 tyX8_ok lw_nw8 rfl lw_raw8 (Nat.le_of_ble_eq_true rfl) (Nat.le_of_ble_eq_true rfl) dL_law_0 (fun q => ?_)
    exact lw_st1 (l := l) hL hX hbl hCx hCm eX eM hR q
  exact start s.heap [] ls ⟨(fun k q h => absurd h (by rw [show wl (D, cA, fun _ => 0, [], []) xY z0 = [] from rfl]; simp)), ⟨(fun i j p q h => absurd h (by rw [show wl (D, cA, fun _ => 0, [], []) xY z0 = [] from rfl]; simp)), (fun k q h => absurd h (by rw [show wl (D, cA, fun _ => 0, [], []) xY z0 = [] from rfl]; simp))⟩, (fun i hi => absurd hi List.not_mem_nil)⟩ va_S.rf hl
-- ===== YOUR PART ENDS =====
set_option maxHeartbeats 4000000 in
theorem lw_walk (l : Launch) (hflags : l.flags = flags0) (b : Addr) (xs : List Int32) : MetFree l x (headSpec (Jvm.Cond.code x code maxLocals ret :: tables_1) room_1) (lw_P b xs) (fun _ _ _ _ _ => True) lw_Q := by
  refine MetFree.of_bodyS (code := code) (maxLocals := maxLocals) (ret := ret) (by decide) ?_ ?_
  · intro args s m h hn
    obtain ⟨meth, c, h1, h2, h3, h4, h5, h6, -, -⟩ := Cond.code_spec hn (atoms_spec (ws := Jvm.Cond.code x code maxLocals ret :: tables_1) h _ List.mem_cons_self)
    exact ⟨meth, c, h1, h2, h3, h4, h5, h6⟩
  · intro p e s m args below meth c s₁ B hml0 hP _
    obtain ⟨rfl, hx, hbd, hgv⟩ := hP
    obtain ⟨scr, harrAt, hlist, hof, hsmall⟩ := hx
    obtain ⟨hcb, hkn, -, -⟩ := State.arrayAt?_spec harrAt
    have hown : s.vm.findClass R_law = some m.cls := findClass_of_methodNamed B.named
    have hts0 : ∀ c ∈ (Jvm.Cond.code x code maxLocals ret :: tables_1), c.before #[Value.ref b] s = true := atoms_spec (ws := Jvm.Cond.code x code maxLocals ret :: tables_1) B.pre
    have hts : ∀ w ∈ lw_tbl, w.before #[Value.ref b] s = true := k2_hts_sels lw_privs (fun w hw => hts0 w (List.mem_cons_of_mem _ hw)) lw_privs_ok
    have hml : c.maxLocals = 4 := B.maxLocals_eq (hts0 _ List.mem_cons_self)
    have X₀ : Stand p l e room_1 s m #[Value.ref b] below meth c s₁ [] 0 0 := Stand.of_body B
    have hh0 : s₁.heap = s.heap := by rw [B.state]; rfl
    have hsz : scr.slots.size = xs.length := by rw [← Array.length_toList, hlist, List.length_map]
    have hval : ∀ j : Nat, j < xs.length → scr.slots[j]? = some (.int (xs.getD j 0)) := fun j hj => by
      rw [← Array.getElem?_toList, hlist]
      simp [hj]
    have hbl : b < s.heap.size := (Array.getElem?_eq_some_iff.mp hcb).1
    have hX : va_X b xs.length (fun j => xs.getD j 0) s s.heap := ⟨scr, hcb, hof, hkn, hsz, hval⟩
    have K : W p l e room_1 s m #[Value.ref b] below meth c s₁.heap [] 0 0 (lw_Z below #[Value.ref b] s) (entryFrame m ([Value.ref b] : List Value).toArray 4) := by
      rw [hh0]
      exact whole_start l hflags hbd ⟨B.exec, B.bytes, B.returns, hml, hown, hts, hX, hbl, B.notSynchronized, hgv⟩
    obtain ⟨t, a1, o, b1, b2, b3⟩ := K s₁ rfl X₀
    exact ⟨t, o, a1, b1, b2, b3⟩
theorem lw_pre_spec {args : Array Value} {s : State} (h : (Jvm.Cond.and given_1 narrow_1).before args s = true) (hr : rest_1_c.before args s = true) : ∃ (b : Addr) (xs : List Int32), lw_P b xs args s := by
  have hs := flat_of_before _ h
  have hq := flat_of_before _ hr
  have hc : (Cond.count 1).before args s = true := hs _ (by decide +kernel)
  have harr : (Cond.arrayOf (.arg 0) .int).before args s = true := hs _ (by decide +kernel)
  have hle : (Cond.le (.length (.arg 0)) (.int 3072)).before args s = true := hs _ (by decide +kernel)
  have hlen : (Cond.isInt (.length (.arg 0))).before args s = true := hq _ (by decide +kernel)
  have hall : (Cond.all (.arg 0) (.isInt (.elem (.arg 0) (.index 0)))).before args s = true := hq _ (by decide +kernel)
  obtain ⟨b, xs, hb, hx⟩ := State.ints_of_pre rfl harr hlen hall
  have hsm : xs.length < 2 ^ 31 := hx.choose_spec.2.2.2
  have hev : (Term.length (.arg 0)).eval args s none [] s = some (.int xs.length.toInt32) := hx.length_eval hb
  have hv := Cond.le_ints hev (show (Term.int 3072).eval args s none [] s = some (.int 3072) from rfl)
  have hd : xs.length.toInt32 ≤ 3072 := by
    simpa [Cond.before, Cond.holds, hv] using hle
  have hN : xs.length ≤ 3072 := (Int32.ofNat_le_ofNat hsm (by decide)).mp (show Int32.ofNat xs.length ≤ Int32.ofNat 3072 from hd)
  exact ⟨b, xs, Cond.one_arg hc (show args[0]? = some (.ref b) from hb), hx, hN, h⟩
theorem lw_comes (l : Launch) (hflags : l.flags = flags0) : Comes l x (Jvm.Cond.code x code maxLocals ret :: tables_1) room_1 (fun tb e args s => Calls_1 tb e args s ∧ rest_1 tb e args s ∧ Pre_1 tb e args s)
    (fun _ _ args s o t => lw_Q args s o t) := by
  intro p e ha hc hk s m args below hf hfit hheap happ hpre
  obtain ⟨b, xs, hP⟩ := lw_pre_spec hpre.2.2 hpre.2.1
  obtain ⟨k, o, h1, h2, h3, hQ⟩ := lw_walk l hflags b xs p e ha hc hk s m args below hf ((Spec.applies_iff_loose hf).mp happ).1 hP trivial
  exact ⟨k, o, h1, h2, h3, hQ⟩
theorem lw_frame {s t : State} {o : Outcome} {args : Array Value} (h : Framed s o t [] 616682 7252203) :
    Framed s o t (fieldLocs frame_1_writes args s ++ arrayLocs frame_1_arrays args s ++ staticLocs frame_1_statics s) 616682 7252203 := h
theorem lw_limb (L : Cond) (hL : ∀ (args : Array Value) (s t : State), L.after args s (.returned (some (.int 1))) t = true) :
    ArmFor flags0 classFile x code maxLocals ret World_1 tables_1 room_1 Calls_1 rest_1 Pre_1
      (fun tb e a s o t => postC L tb e a s o t ∧ Framed s o t (fieldLocs frame_1_writes a s ++ arrayLocs frame_1_arrays a s ++ staticLocs frame_1_statics s) 616682 7252203) := by
  intro l hflags _ _ p e ha hc hk s m args below hf hfit hheap happ hpre
  obtain ⟨k, o, h1, h2, h3, rfl, hF⟩ := lw_comes l hflags p e ha hc hk s m args below hf hfit hheap happ hpre
  exact ⟨k, _, h1, h2, h3, hL args s _, lw_frame hF⟩
theorem i_vc : Claimed_1_1 ∧ Claimed_1_2 := ⟨lw_limb limb_1_1 (fun args s t => by simp [limb_1_1, Cond.after, Cond.holds, Cond.value]), lw_limb limb_1_2 (fun args s t => Cond.after_iff.mpr (by
  first | (rw [show limb_1_2 = Cond.eq .result (.int 1) from rfl, Cond.eq_ints (x := 1) (y := 1) rfl rfl]; simp; done) | (simp [limb_1_2, Cond.value, Term.eval]; done)))⟩
