/-! THE LAW: what stands at its loop -/
theorem wt_ex {D : va_G} {cA : Nat → ClassId} {ad : Nat → Nat} {ids : List Nat} {ex ex2 : va_W} {Y : YD} {σ : HS} (h : wt (D, cA, ad, ids, ex) Y σ) : wt (D, cA, ad, ids, ex2) Y σ := fun i hi k j hj => h i hi k j hj
def LI (D : va_G) (cA : Nat → ClassId) (ad : Nat → Nat) (ids : List Nat) (adm : Nat → Nat) (n : Nat) (σ υ : HS) : Prop := RelE n σ υ ∧ (∀ k, k ∈ ids ↔ xS n k) ∧ wt (D, cA, adm, idM, []) mY υ
theorem RelE_8 {n : Nat} {σ υ : HS} (h : RelE n σ υ) : n ≤ 8 ∧ gI σ 0 8 = nI n ∧ ∀ j k, 19 ≤ j → gR σ j k = none := by
  obtain ⟨_, _, _, _, _, h⟩ := h
  exact ⟨h.2.1.1.1, h.2.1.1.2.1, h.2.2.2.1.1⟩
theorem XI_of {D : va_G} {cA : Nat → ClassId} {ad : Nat → Nat} {ids : List Nat} {n : Nat} {σ υ : HS} (h : RelE n σ υ) (hi : ∀ k, k ∈ ids ↔ xS n k) : XI (D, cA, ad, ids, []) σ := by
  obtain ⟨h1, h2, h3⟩ := RelE_8 h
  have e : ix (gI σ 0 8) = n := by rw [h2, ix_nI (by omega)]
  exact ⟨rfl, by rw [e]; exact h1, by rw [e]; exact hi, h3⟩
theorem LI_plan {D : va_G} {cA : Nat → ClassId} {ad : Nat → Nat} {ids : List Nat} {adm : Nat → Nat} {n : Nat} {τ υ : HS} {r : Int32} {u : (Nat → Nat) × List Nat} (hu : PlQ (D, cA, ad, ids, []) r τ r u) (hR : RelE n τ υ) (hw : wt (D, cA, adm, idM, []) mY υ) : LI D cA u.1 u.2 adm n τ υ := by
  obtain ⟨h1, h2, h3⟩ := RelE_8 hR
  have e : ix (gI τ 0 8) = n := by rw [h2, ix_nI (by omega)]
  have := hu.2.2.2.2.1
  rw [e] at this
  exact ⟨hR, this, hw⟩
theorem lc43_law : Jvm.Cond.constantLong RL 43 4294967295 ∈ wsL_law := by decide +kernel
set_option maxHeartbeats 4000000 in
set_option maxRecDepth 100000 in
theorem lw_case0 {adK adV : Nat → Nat} {tb : Nat} {p : Program} {l : Launch} {e : Env} {s : State} {m : MethodId} {below : List Frame} {meth : Method} {c : Code} {A : Nat → Prop} {D : va_G} {cA : Nat → ClassId} {ad adm : Nat → Nat} {ids : List Nat} {b N n0 C S : Nat} {xs : Nat → Int32} {σ υ : HS} {Q : State → Prop} {i0 : Int32} (hX : va_X b N xs s s.heap) (hbl : b < s.heap.size) (hbA : ¬ A b) (hCx : Cx (xE adK adV tb) D cA xY code 4 ret RL wsL_law p s m #[Value.ref b] meth c A) (hCm : Cx mE D cA mY code 4 ret RL wsL_law p s m #[Value.ref b] meth c A) (hI : LI D cA ad ids adm n0 σ υ) (h1 : vp_in (i0 + 1) N) (h2 : vp_in (i0 + 2) N) (h3 : vp_in (i0 + 3) N) (h4 : vp_in (i0 + 4) N) (h5 : vp_in (i0 + 5) N) (hb : C + 18 ≤ 616682 ∧ S + 90 ≤ 7252203) (kk : ∀ (n' : Nat) (ad' : Nat → Nat) (ids' : List Nat) (σ' υ' : HS), LI D cA ad' ids' adm n' σ' υ' → V p l e room_1 s m #[Value.ref b] below meth c 4 A (D, cA, ad', ids', wl (D, cA, adm, idM, []) mY υ') xY (C + 18) (S + 90) Q σ' 1176 [(0, .ref b), (1, .ref (ad' 0)), (2, .ref (adm 0)), (3, .int i0)] []) : V p l e room_1 s m #[Value.ref b] below meth c 4 A (D, cA, ad, ids, wl (D, cA, adm, idM, []) mY υ) xY C S Q σ 176 [(0, .ref b), (1, .ref (ad 0)), (2, .ref (adm 0)), (3, .int i0)] [] := by
  obtain ⟨hR, hids, hwm⟩ := hI
  have hG : GX (D, cA, ad, ids, wl (D, cA, adm, idM, []) mY υ) xY := GX_xS (RelE_8 hR).1 hids
  have hO : Ob (D, cA, ad, ids, wl (D, cA, adm, idM, []) mY υ) xY 0 7 := ⟨(hids 0).mpr (Or.inl (by decide)), rfl⟩
  obtain ⟨r, σ', υ', e1, e2, hR'⟩ := Op_boxes (xs (i0 + 1).toNatClampNeg) hR
  refine v_aload_n hCx dL_law_176 1 rfl ?_
  refine v_aload_n hCx dL_law_177 0 rfl ?_
  refine v_iload_n hCx dL_law_178 3 rfl ?_
  refine v_iconst (v := 1) hCx dL_law_179 (by decide) ?_
  refine v_iadd hCx dL_law_180 ?_
  refine v_sld hCx hX hbl hbA h1 dL_law_181 ?_
  refine v_callVI (G := (D, cA, ad, ids, wl (D, cA, adm, idM, []) mY υ)) hCx xE_ok (n := 1) (As := [.int (xs (i0 + 1).toNatClampNeg)]) (k_X8_boxes l hG hO e1) (cwV 1 hCx.1.2.2.2.2 gL_law_X8_boxes rfl rfl rfl (by decide +kernel) ⟨(Nat.le_of_ble_eq_true rfl), (Nat.le_of_ble_eq_true rfl)⟩) hO (by decide) rfl rfl rfl (Nat.le_of_ble_eq_true rfl) ⟨by show C ≤ 616682; omega, by show S ≤ 7252203; omega⟩ dL_law_182 rfl ?_
  refine v_wt (fun hwx => ?_)
  refine V.swap hwm ?_
  refine v_aload_n hCm dL_law_185 2 rfl ?_
  refine v_aload_n hCm dL_law_186 0 rfl ?_
  refine v_iload_n hCm dL_law_187 3 rfl ?_
  refine v_iconst (v := 1) hCm dL_law_188 (by decide) ?_
  refine v_iadd hCm dL_law_189 ?_
  refine v_sld hCm hX hbl hbA h1 dL_law_190 ?_
  have hGm : GX (D, cA, adm, idM, wl (D, cA, ad, ids, []) xY σ') mY := GX_idM rfl
  have hOm : Ob (D, cA, adm, idM, wl (D, cA, ad, ids, []) xY σ') mY 0 8 := ⟨(by decide : 0 ∈ idM), rfl⟩
  refine v_callVI (G := (D, cA, adm, idM, wl (D, cA, ad, ids, []) xY σ')) hCm mE_ok (n := 1) (As := [.int (xs (i0 + 1).toNatClampNeg)]) (k_X9_boxes l hGm hOm e2) (cwV 1 hCm.1.2.2.2.2 gL_law_X9_boxes rfl rfl rfl (by decide +kernel) ⟨(Nat.le_of_ble_eq_true rfl), (Nat.le_of_ble_eq_true rfl)⟩) hOm (by decide) rfl rfl rfl (Nat.le_of_ble_eq_true rfl) ⟨by show C ≤ 616682; omega, by show S ≤ 7252203; omega⟩ dL_law_191 rfl ?_
  refine v_wt (fun hwm2 => ?_)
  refine V.swap (wt_ex hwx) ?_
  refine v_icmp_eq (tgt := 1176) hCx dL_law_194 (by decide) (fun _ => ?_) (fun h => absurd rfl h)
  exact V.widen (by omega) (by omega) (kk n0 ad ids σ' υ' ⟨hR', hids, wt_ex hwm2⟩)
