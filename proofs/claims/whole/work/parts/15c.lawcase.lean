/-! THE LAW: its calls -/
set_option maxHeartbeats 4000000 in
set_option maxRecDepth 100000 in
theorem lw_case8 {adK adV : Nat → Nat} {tb : Nat} {p : Program} {l : Launch} {e : Env} {s : State} {m : MethodId} {below : List Frame} {meth : Method} {c : Code} {A : Nat → Prop} {D : va_G} {cA : Nat → ClassId} {ad adm : Nat → Nat} {ids : List Nat} {b N n0 C S : Nat} {xs : Nat → Int32} {σ υ : HS} {Q : State → Prop} {i0 : Int32} (hX : va_X b N xs s s.heap) (hbl : b < s.heap.size) (hbA : ¬ A b) (hCx : Cx (xE adK adV tb) D cA xY code 4 ret RL wsL_law p s m #[Value.ref b] meth c A) (hCm : Cx mE D cA mY code 4 ret RL wsL_law p s m #[Value.ref b] meth c A) (hI : LI D cA ad ids adm n0 σ υ) (h1 : vp_in (i0 + 1) N) (h2 : vp_in (i0 + 2) N) (h3 : vp_in (i0 + 3) N) (h4 : vp_in (i0 + 4) N) (h5 : vp_in (i0 + 5) N) (hb : C + 18 ≤ 616682 ∧ S + 90 ≤ 7252203) (kk : ∀ (n' : Nat) (ad' : Nat → Nat) (ids' : List Nat) (σ' υ' : HS), LI D cA ad' ids' adm n' σ' υ' → V p l e room_1 s m #[Value.ref b] below meth c 4 A (D, cA, ad', ids', wl (D, cA, adm, idM, []) mY υ') xY (C + 18) (S + 90) Q σ' 1176 [(0, .ref b), (1, .ref (ad' 0)), (2, .ref (adm 0)), (3, .int i0)] []) : V p l e room_1 s m #[Value.ref b] below meth c 4 A (D, cA, ad, ids, wl (D, cA, adm, idM, []) mY υ) xY C S Q σ 420 [(0, .ref b), (1, .ref (ad 0)), (2, .ref (adm 0)), (3, .int i0)] [] := by
  obtain ⟨hR, hids, hwm⟩ := hI
  have hG : GX (D, cA, ad, ids, wl (D, cA, adm, idM, []) mY υ) xY := GX_xS (RelE_8 hR).1 hids
  have hO : Ob (D, cA, ad, ids, wl (D, cA, adm, idM, []) mY υ) xY 0 7 := ⟨(hids 0).mpr (Or.inl (by decide)), rfl⟩
  obtain ⟨r, σ', υ', e1, e2, hR'⟩ := Op_text hR
  refine v_aload_n hCx dL_law_420 1 rfl ?_
  refine v_callVI (G := (D, cA, ad, ids, wl (D, cA, adm, idM, []) mY υ)) hCx xE_ok (n := 0) (As := []) (k_X8_text l hG hO e1) (cwV 0 hCx.1.2.2.2.2 gL_law_X8_text rfl rfl rfl (by decide +kernel) ⟨(Nat.le_of_ble_eq_true rfl), (Nat.le_of_ble_eq_true rfl)⟩) hO (by decide) rfl rfl rfl (Nat.le_of_ble_eq_true rfl) ⟨by show C ≤ 616682; omega, by show S ≤ 7252203; omega⟩ dL_law_421 rfl ?_
  refine v_wt (fun hwx => ?_)
  refine V.swap hwm ?_
  refine v_aload_n hCm dL_law_424 2 rfl ?_
  have hGm : GX (D, cA, adm, idM, wl (D, cA, ad, ids, []) xY σ') mY := GX_idM rfl
  have hOm : Ob (D, cA, adm, idM, wl (D, cA, ad, ids, []) xY σ') mY 0 8 := ⟨(by decide : 0 ∈ idM), rfl⟩
  refine v_callVI (G := (D, cA, adm, idM, wl (D, cA, ad, ids, []) xY σ')) hCm mE_ok (n := 0) (As := []) (k_X9_text l hGm hOm e2) (cwV 0 hCm.1.2.2.2.2 gL_law_X9_text rfl rfl rfl (by decide +kernel) ⟨(Nat.le_of_ble_eq_true rfl), (Nat.le_of_ble_eq_true rfl)⟩) hOm (by decide) rfl rfl rfl (Nat.le_of_ble_eq_true rfl) ⟨by show C ≤ 616682; omega, by show S ≤ 7252203; omega⟩ dL_law_425 rfl ?_
  refine v_wt (fun hwm2 => ?_)
  refine V.swap (wt_ex hwx) ?_
  refine v_icmp_eq (tgt := 1176) hCx dL_law_428 (by decide) (fun _ => ?_) (fun h => absurd rfl h)
  exact V.widen (by omega) (by omega) (kk n0 ad ids σ' υ' ⟨hR', hids, wt_ex hwm2⟩)
set_option maxHeartbeats 4000000 in
set_option maxRecDepth 100000 in
theorem lw_case9 {adK adV : Nat → Nat} {tb : Nat} {p : Program} {l : Launch} {e : Env} {s : State} {m : MethodId} {below : List Frame} {meth : Method} {c : Code} {A : Nat → Prop} {D : va_G} {cA : Nat → ClassId} {ad adm : Nat → Nat} {ids : List Nat} {b N n0 C S : Nat} {xs : Nat → Int32} {σ υ : HS} {Q : State → Prop} {i0 : Int32} (hX : va_X b N xs s s.heap) (hbl : b < s.heap.size) (hbA : ¬ A b) (hCx : Cx (xE adK adV tb) D cA xY code 4 ret RL wsL_law p s m #[Value.ref b] meth c A) (hCm : Cx mE D cA mY code 4 ret RL wsL_law p s m #[Value.ref b] meth c A) (hI : LI D cA ad ids adm n0 σ υ) (h1 : vp_in (i0 + 1) N) (h2 : vp_in (i0 + 2) N) (h3 : vp_in (i0 + 3) N) (h4 : vp_in (i0 + 4) N) (h5 : vp_in (i0 + 5) N) (hb : C + 18 ≤ 616682 ∧ S + 90 ≤ 7252203) (kk : ∀ (n' : Nat) (ad' : Nat → Nat) (ids' : List Nat) (σ' υ' : HS), LI D cA ad' ids' adm n' σ' υ' → V p l e room_1 s m #[Value.ref b] below meth c 4 A (D, cA, ad', ids', wl (D, cA, adm, idM, []) mY υ') xY (C + 18) (S + 90) Q σ' 1176 [(0, .ref b), (1, .ref (ad' 0)), (2, .ref (adm 0)), (3, .int i0)] []) : V p l e room_1 s m #[Value.ref b] below meth c 4 A (D, cA, ad, ids, wl (D, cA, adm, idM, []) mY υ) xY C S Q σ 433 [(0, .ref b), (1, .ref (ad 0)), (2, .ref (adm 0)), (3, .int i0)] [] := by
  obtain ⟨hR, hids, hwm⟩ := hI
  have hG : GX (D, cA, ad, ids, wl (D, cA, adm, idM, []) mY υ) xY := GX_xS (RelE_8 hR).1 hids
  have hO : Ob (D, cA, ad, ids, wl (D, cA, adm, idM, []) mY υ) xY 0 7 := ⟨(hids 0).mpr (Or.inl (by decide)), rfl⟩
  obtain ⟨r, σ', υ', e1, e2, hR'⟩ := Op_force (xs (i0 + 1).toNatClampNeg) hR
  refine v_aload_n hCx dL_law_433 1 rfl ?_
  refine v_aload_n hCx dL_law_434 0 rfl ?_
  refine v_iload_n hCx dL_law_435 3 rfl ?_
  refine v_iconst (v := 1) hCx dL_law_436 (by decide) ?_
  refine v_iadd hCx dL_law_437 ?_
  refine v_sld hCx hX hbl hbA h1 dL_law_438 ?_
  refine v_callVI (G := (D, cA, ad, ids, wl (D, cA, adm, idM, []) mY υ)) hCx xE_ok (n := 1) (As := [.int (xs (i0 + 1).toNatClampNeg)]) (k_X8_force l hG hO e1) (cwV 1 hCx.1.2.2.2.2 gL_law_X8_force rfl rfl rfl (by decide +kernel) ⟨(Nat.le_of_ble_eq_true rfl), (Nat.le_of_ble_eq_true rfl)⟩) hO (by decide) rfl rfl rfl (Nat.le_of_ble_eq_true rfl) ⟨by show C ≤ 616682; omega, by show S ≤ 7252203; omega⟩ dL_law_439 rfl ?_
  refine v_wt (fun hwx => ?_)
  refine V.swap hwm ?_
  refine v_aload_n hCm dL_law_442 2 rfl ?_
  refine v_aload_n hCm dL_law_443 0 rfl ?_
  refine v_iload_n hCm dL_law_444 3 rfl ?_
  refine v_iconst (v := 1) hCm dL_law_445 (by decide) ?_
  refine v_iadd hCm dL_law_446 ?_
  refine v_sld hCm hX hbl hbA h1 dL_law_447 ?_
  have hGm : GX (D, cA, adm, idM, wl (D, cA, ad, ids, []) xY σ') mY := GX_idM rfl
  have hOm : Ob (D, cA, adm, idM, wl (D, cA, ad, ids, []) xY σ') mY 0 8 := ⟨(by decide : 0 ∈ idM), rfl⟩
  refine v_callVI (G := (D, cA, adm, idM, wl (D, cA, ad, ids, []) xY σ')) hCm mE_ok (n := 1) (As := [.int (xs (i0 + 1).toNatClampNeg)]) (k_X9_force l hGm hOm e2) (cwV 1 hCm.1.2.2.2.2 gL_law_X9_force rfl rfl rfl (by decide +kernel) ⟨(Nat.le_of_ble_eq_true rfl), (Nat.le_of_ble_eq_true rfl)⟩) hOm (by decide) rfl rfl rfl (Nat.le_of_ble_eq_true rfl) ⟨by show C ≤ 616682; omega, by show S ≤ 7252203; omega⟩ dL_law_448 rfl ?_
  refine v_wt (fun hwm2 => ?_)
  refine V.swap (wt_ex hwx) ?_
  refine v_icmp_eq (tgt := 1176) hCx dL_law_451 (by decide) (fun _ => ?_) (fun h => absurd rfl h)
  exact V.widen (by omega) (by omega) (kk n0 ad ids σ' υ' ⟨hR', hids, wt_ex hwm2⟩)
set_option maxHeartbeats 4000000 in
set_option maxRecDepth 100000 in
theorem lw_case10 {adK adV : Nat → Nat} {tb : Nat} {p : Program} {l : Launch} {e : Env} {s : State} {m : MethodId} {below : List Frame} {meth : Method} {c : Code} {A : Nat → Prop} {D : va_G} {cA : Nat → ClassId} {ad adm : Nat → Nat} {ids : List Nat} {b N n0 C S : Nat} {xs : Nat → Int32} {σ υ : HS} {Q : State → Prop} {i0 : Int32} (hX : va_X b N xs s s.heap) (hbl : b < s.heap.size) (hbA : ¬ A b) (hCx : Cx (xE adK adV tb) D cA xY code 4 ret RL wsL_law p s m #[Value.ref b] meth c A) (hCm : Cx mE D cA mY code 4 ret RL wsL_law p s m #[Value.ref b] meth c A) (hI : LI D cA ad ids adm n0 σ υ) (h1 : vp_in (i0 + 1) N) (h2 : vp_in (i0 + 2) N) (h3 : vp_in (i0 + 3) N) (h4 : vp_in (i0 + 4) N) (h5 : vp_in (i0 + 5) N) (hb : C + 18 ≤ 616682 ∧ S + 90 ≤ 7252203) (kk : ∀ (n' : Nat) (ad' : Nat → Nat) (ids' : List Nat) (σ' υ' : HS), LI D cA ad' ids' adm n' σ' υ' → V p l e room_1 s m #[Value.ref b] below meth c 4 A (D, cA, ad', ids', wl (D, cA, adm, idM, []) mY υ') xY (C + 18) (S + 90) Q σ' 1176 [(0, .ref b), (1, .ref (ad' 0)), (2, .ref (adm 0)), (3, .int i0)] []) : V p l e room_1 s m #[Value.ref b] below meth c 4 A (D, cA, ad, ids, wl (D, cA, adm, idM, []) mY υ) xY C S Q σ 456 [(0, .ref b), (1, .ref (ad 0)), (2, .ref (adm 0)), (3, .int i0)] [] := by
  obtain ⟨hR, hids, hwm⟩ := hI
  have hG : GX (D, cA, ad, ids, wl (D, cA, adm, idM, []) mY υ) xY := GX_xS (RelE_8 hR).1 hids
  have hO : Ob (D, cA, ad, ids, wl (D, cA, adm, idM, []) mY υ) xY 0 7 := ⟨(hids 0).mpr (Or.inl (by decide)), rfl⟩
  obtain ⟨r, σ', υ', e1, e2, hR'⟩ := Op_bet hR
  refine v_aload_n hCx dL_law_456 1 rfl ?_
  refine v_callVI (G := (D, cA, ad, ids, wl (D, cA, adm, idM, []) mY υ)) hCx xE_ok (n := 0) (As := []) (k_X8_bet l hG hO e1) (cwV 0 hCx.1.2.2.2.2 gL_law_X8_bet rfl rfl rfl (by decide +kernel) ⟨(Nat.le_of_ble_eq_true rfl), (Nat.le_of_ble_eq_true rfl)⟩) hO (by decide) rfl rfl rfl (Nat.le_of_ble_eq_true rfl) ⟨by show C ≤ 616682; omega, by show S ≤ 7252203; omega⟩ dL_law_457 rfl ?_
  refine v_wt (fun hwx => ?_)
  refine V.swap hwm ?_
  refine v_aload_n hCm dL_law_460 2 rfl ?_
  have hGm : GX (D, cA, adm, idM, wl (D, cA, ad, ids, []) xY σ') mY := GX_idM rfl
  have hOm : Ob (D, cA, adm, idM, wl (D, cA, ad, ids, []) xY σ') mY 0 8 := ⟨(by decide : 0 ∈ idM), rfl⟩
  refine v_callVI (G := (D, cA, adm, idM, wl (D, cA, ad, ids, []) xY σ')) hCm mE_ok (n := 0) (As := []) (k_X9_bet l hGm hOm e2) (cwV 0 hCm.1.2.2.2.2 gL_law_X9_bet rfl rfl rfl (by decide +kernel) ⟨(Nat.le_of_ble_eq_true rfl), (Nat.le_of_ble_eq_true rfl)⟩) hOm (by decide) rfl rfl rfl (Nat.le_of_ble_eq_true rfl) ⟨by show C ≤ 616682; omega, by show S ≤ 7252203; omega⟩ dL_law_461 rfl ?_
  refine v_wt (fun hwm2 => ?_)
  refine V.swap (wt_ex hwx) ?_
  refine v_icmp_eq (tgt := 1176) hCx dL_law_464 (by decide) (fun _ => ?_) (fun h => absurd rfl h)
  exact V.widen (by omega) (by omega) (kk n0 ad ids σ' υ' ⟨hR', hids, wt_ex hwm2⟩)
set_option maxHeartbeats 4000000 in
set_option maxRecDepth 100000 in
theorem lw_case11 {adK adV : Nat → Nat} {tb : Nat} {p : Program} {l : Launch} {e : Env} {s : State} {m : MethodId} {below : List Frame} {meth : Method} {c : Code} {A : Nat → Prop} {D : va_G} {cA : Nat → ClassId} {ad adm : Nat → Nat} {ids : List Nat} {b N n0 C S : Nat} {xs : Nat → Int32} {σ υ : HS} {Q : State → Prop} {i0 : Int32} (hX : va_X b N xs s s.heap) (hbl : b < s.heap.size) (hbA : ¬ A b) (hCx : Cx (xE adK adV tb) D cA xY code 4 ret RL wsL_law p s m #[Value.ref b] meth c A) (hCm : Cx mE D cA mY code 4 ret RL wsL_law p s m #[Value.ref b] meth c A) (hI : LI D cA ad ids adm n0 σ υ) (h1 : vp_in (i0 + 1) N) (h2 : vp_in (i0 + 2) N) (h3 : vp_in (i0 + 3) N) (h4 : vp_in (i0 + 4) N) (h5 : vp_in (i0 + 5) N) (hb : C + 18 ≤ 616682 ∧ S + 90 ≤ 7252203) (kk : ∀ (n' : Nat) (ad' : Nat → Nat) (ids' : List Nat) (σ' υ' : HS), LI D cA ad' ids' adm n' σ' υ' → V p l e room_1 s m #[Value.ref b] below meth c 4 A (D, cA, ad', ids', wl (D, cA, adm, idM, []) mY υ') xY (C + 18) (S + 90) Q σ' 1176 [(0, .ref b), (1, .ref (ad' 0)), (2, .ref (adm 0)), (3, .int i0)] []) : V p l e room_1 s m #[Value.ref b] below meth c 4 A (D, cA, ad, ids, wl (D, cA, adm, idM, []) mY υ) xY C S Q σ 469 [(0, .ref b), (1, .ref (ad 0)), (2, .ref (adm 0)), (3, .int i0)] [] := by
  obtain ⟨hR, hids, hwm⟩ := hI
  have hG : GX (D, cA, ad, ids, wl (D, cA, adm, idM, []) mY υ) xY := GX_xS (RelE_8 hR).1 hids
  have hO : Ob (D, cA, ad, ids, wl (D, cA, adm, idM, []) mY υ) xY 0 7 := ⟨(hids 0).mpr (Or.inl (by decide)), rfl⟩
  obtain ⟨r, σ', υ', n', e1, e2, hR', _, _⟩ := Op_plan (xs (i0 + 1).toNatClampNeg) (xs (i0 + 2).toNatClampNeg) hR
  refine v_aload_n hCx dL_law_469 1 rfl ?_
  refine v_aload_n hCx dL_law_470 0 rfl ?_
  refine v_iload_n hCx dL_law_471 3 rfl ?_
  refine v_iconst (v := 1) hCx dL_law_472 (by decide) ?_
  refine v_iadd hCx dL_law_473 ?_
  refine v_sld hCx hX hbl hbA h1 dL_law_474 ?_
  refine v_aload_n hCx dL_law_475 0 rfl ?_
  refine v_iload_n hCx dL_law_476 3 rfl ?_
  refine v_iconst (v := 2) hCx dL_law_477 (by decide) ?_
  refine v_iadd hCx dL_law_478 ?_
  refine v_sld hCx hX hbl hbA h2 dL_law_479 ?_
  refine v_callPX hCx xE_ok (n := 2) (As := [.int (xs (i0 + 1).toNatClampNeg), .int (xs (i0 + 2).toNatClampNeg)]) (k_X8_plan l (XI_of hR hids) e1) (cwV 2 hCx.1.2.2.2.2 gL_law_X8_plan rfl rfl rfl (by decide +kernel) ⟨(Nat.le_of_ble_eq_true rfl), (Nat.le_of_ble_eq_true rfl)⟩) ⟨(hids 0).mpr (Or.inl (by decide)), rfl⟩ rfl (Nat.le_of_ble_eq_true rfl) ⟨by show C + 2 ≤ 616682; omega, by show S + 10 ≤ 7252203; omega⟩ dL_law_480 rfl (fun u hu => ?_)
  have a0 : u.1 0 = ad 0 := hu.2.1 0 ((hids 0).mpr (Or.inl (by decide)))
  refine v_wt (fun hwx => ?_)
  refine V.swap hwm ?_
  refine v_aload_n hCm dL_law_483 2 rfl ?_
  refine v_aload_n hCm dL_law_484 0 rfl ?_
  refine v_iload_n hCm dL_law_485 3 rfl ?_
  refine v_iconst (v := 1) hCm dL_law_486 (by decide) ?_
  refine v_iadd hCm dL_law_487 ?_
  refine v_sld hCm hX hbl hbA h1 dL_law_488 ?_
  refine v_aload_n hCm dL_law_489 0 rfl ?_
  refine v_iload_n hCm dL_law_490 3 rfl ?_
  refine v_iconst (v := 2) hCm dL_law_491 (by decide) ?_
  refine v_iadd hCm dL_law_492 ?_
  refine v_sld hCm hX hbl hbA h2 dL_law_493 ?_
  have hGm : GX (D, cA, adm, idM, wl (D, cA, u.1, u.2, []) xY σ') mY := GX_idM rfl
  have hOm : Ob (D, cA, adm, idM, wl (D, cA, u.1, u.2, []) xY σ') mY 0 8 := ⟨(by decide : 0 ∈ idM), rfl⟩
  refine v_callVI (G := (D, cA, adm, idM, wl (D, cA, u.1, u.2, []) xY σ')) hCm mE_ok (n := 2) (As := [.int (xs (i0 + 1).toNatClampNeg), .int (xs (i0 + 2).toNatClampNeg)]) (k_X9_plan l hGm hOm e2) (cwV 2 hCm.1.2.2.2.2 gL_law_X9_plan rfl rfl rfl (by decide +kernel) ⟨(Nat.le_of_ble_eq_true rfl), (Nat.le_of_ble_eq_true rfl)⟩) hOm (by decide) rfl rfl rfl (Nat.le_of_ble_eq_true rfl) ⟨by show C + 2 ≤ 616682; omega, by show S + 10 ≤ 7252203; omega⟩ dL_law_494 rfl ?_
  refine v_wt (fun hwm2 => ?_)
  refine V.swap (wt_ex hwx) ?_
  refine v_icmp_eq (tgt := 1176) hCx dL_law_497 (by decide) (fun _ => ?_) (fun h => absurd rfl h)
  refine V.cast (L' := [(0, .ref b), (1, .ref (u.1 0)), (2, .ref (adm 0)), (3, .int i0)]) (st' := []) (by rw [a0]) rfl ?_
  exact V.widen (by omega) (by omega) (kk n' u.1 u.2 σ' υ' (LI_plan hu hR' (wt_ex hwm2)))
set_option maxHeartbeats 4000000 in
set_option maxRecDepth 100000 in
theorem lw_case12 {adK adV : Nat → Nat} {tb : Nat} {p : Program} {l : Launch} {e : Env} {s : State} {m : MethodId} {below : List Frame} {meth : Method} {c : Code} {A : Nat → Prop} {D : va_G} {cA : Nat → ClassId} {ad adm : Nat → Nat} {ids : List Nat} {b N n0 C S : Nat} {xs : Nat → Int32} {σ υ : HS} {Q : State → Prop} {i0 : Int32} (hX : va_X b N xs s s.heap) (hbl : b < s.heap.size) (hbA : ¬ A b) (hCx : Cx (xE adK adV tb) D cA xY code 4 ret RL wsL_law p s m #[Value.ref b] meth c A) (hCm : Cx mE D cA mY code 4 ret RL wsL_law p s m #[Value.ref b] meth c A) (hI : LI D cA ad ids adm n0 σ υ) (h1 : vp_in (i0 + 1) N) (h2 : vp_in (i0 + 2) N) (h3 : vp_in (i0 + 3) N) (h4 : vp_in (i0 + 4) N) (h5 : vp_in (i0 + 5) N) (hb : C + 18 ≤ 616682 ∧ S + 90 ≤ 7252203) (kk : ∀ (n' : Nat) (ad' : Nat → Nat) (ids' : List Nat) (σ' υ' : HS), LI D cA ad' ids' adm n' σ' υ' → V p l e room_1 s m #[Value.ref b] below meth c 4 A (D, cA, ad', ids', wl (D, cA, adm, idM, []) mY υ') xY (C + 18) (S + 90) Q σ' 1176 [(0, .ref b), (1, .ref (ad' 0)), (2, .ref (adm 0)), (3, .int i0)] []) : V p l e room_1 s m #[Value.ref b] below meth c 4 A (D, cA, ad, ids, wl (D, cA, adm, idM, []) mY υ) xY C S Q σ 502 [(0, .ref b), (1, .ref (ad 0)), (2, .ref (adm 0)), (3, .int i0)] [] := by
  obtain ⟨hR, hids, hwm⟩ := hI
  have hG : GX (D, cA, ad, ids, wl (D, cA, adm, idM, []) mY υ) xY := GX_xS (RelE_8 hR).1 hids
  have hO : Ob (D, cA, ad, ids, wl (D, cA, adm, idM, []) mY υ) xY 0 7 := ⟨(hids 0).mpr (Or.inl (by decide)), rfl⟩
  obtain ⟨r, σ', υ', e1, e2, hR'⟩ := Op_next (xs (i0 + 1).toNatClampNeg) (xs (i0 + 2).toNatClampNeg) (xs (i0 + 3).toNatClampNeg) (xs (i0 + 4).toNatClampNeg) hR
  refine v_aload_n hCx dL_law_502 1 rfl ?_
  refine v_aload_n hCx dL_law_503 0 rfl ?_
  refine v_iload_n hCx dL_law_504 3 rfl ?_
  refine v_iconst (v := 1) hCx dL_law_505 (by decide) ?_
  refine v_iadd hCx dL_law_506 ?_
  refine v_sld hCx hX hbl hbA h1 dL_law_507 ?_
  refine v_aload_n hCx dL_law_508 0 rfl ?_
  refine v_iload_n hCx dL_law_509 3 rfl ?_
  refine v_iconst (v := 2) hCx dL_law_510 (by decide) ?_
  refine v_iadd hCx dL_law_511 ?_
  refine v_sld hCx hX hbl hbA h2 dL_law_512 ?_
  refine v_aload_n hCx dL_law_513 0 rfl ?_
  refine v_iload_n hCx dL_law_514 3 rfl ?_
  refine v_iconst (v := 3) hCx dL_law_515 (by decide) ?_
  refine v_iadd hCx dL_law_516 ?_
  refine v_sld hCx hX hbl hbA h3 dL_law_517 ?_
  refine v_aload_n hCx dL_law_518 0 rfl ?_
  refine v_iload_n hCx dL_law_519 3 rfl ?_
  refine v_iconst (v := 4) hCx dL_law_520 (by decide) ?_
  refine v_iadd hCx dL_law_521 ?_
  refine v_sld hCx hX hbl hbA h4 dL_law_522 ?_
  refine v_callVI (G := (D, cA, ad, ids, wl (D, cA, adm, idM, []) mY υ)) hCx xE_ok (n := 4) (As := [.int (xs (i0 + 1).toNatClampNeg), .int (xs (i0 + 2).toNatClampNeg), .int (xs (i0 + 3).toNatClampNeg), .int (xs (i0 + 4).toNatClampNeg)]) (k_X8_next l hG hO e1) (cwV 4 hCx.1.2.2.2.2 gL_law_X8_next rfl rfl rfl (by decide +kernel) ⟨(Nat.le_of_ble_eq_true rfl), (Nat.le_of_ble_eq_true rfl)⟩) hO (by decide) rfl rfl rfl (Nat.le_of_ble_eq_true rfl) ⟨by show C ≤ 616682; omega, by show S ≤ 7252203; omega⟩ dL_law_523 rfl ?_
  refine v_wt (fun hwx => ?_)
  refine V.swap hwm ?_
  refine v_aload_n hCm dL_law_526 2 rfl ?_
  refine v_aload_n hCm dL_law_527 0 rfl ?_
  refine v_iload_n hCm dL_law_528 3 rfl ?_
  refine v_iconst (v := 1) hCm dL_law_529 (by decide) ?_
  refine v_iadd hCm dL_law_530 ?_
  refine v_sld hCm hX hbl hbA h1 dL_law_531 ?_
  refine v_aload_n hCm dL_law_532 0 rfl ?_
  refine v_iload_n hCm dL_law_533 3 rfl ?_
  refine v_iconst (v := 2) hCm dL_law_534 (by decide) ?_
  refine v_iadd hCm dL_law_535 ?_
  refine v_sld hCm hX hbl hbA h2 dL_law_536 ?_
  refine v_aload_n hCm dL_law_537 0 rfl ?_
  refine v_iload_n hCm dL_law_538 3 rfl ?_
  refine v_iconst (v := 3) hCm dL_law_539 (by decide) ?_
  refine v_iadd hCm dL_law_540 ?_
  refine v_sld hCm hX hbl hbA h3 dL_law_541 ?_
  refine v_aload_n hCm dL_law_542 0 rfl ?_
  refine v_iload_n hCm dL_law_543 3 rfl ?_
  refine v_iconst (v := 4) hCm dL_law_544 (by decide) ?_
  refine v_iadd hCm dL_law_545 ?_
  refine v_sld hCm hX hbl hbA h4 dL_law_546 ?_
  have hGm : GX (D, cA, adm, idM, wl (D, cA, ad, ids, []) xY σ') mY := GX_idM rfl
  have hOm : Ob (D, cA, adm, idM, wl (D, cA, ad, ids, []) xY σ') mY 0 8 := ⟨(by decide : 0 ∈ idM), rfl⟩
  refine v_callVI (G := (D, cA, adm, idM, wl (D, cA, ad, ids, []) xY σ')) hCm mE_ok (n := 4) (As := [.int (xs (i0 + 1).toNatClampNeg), .int (xs (i0 + 2).toNatClampNeg), .int (xs (i0 + 3).toNatClampNeg), .int (xs (i0 + 4).toNatClampNeg)]) (k_X9_next l hGm hOm e2) (cwV 4 hCm.1.2.2.2.2 gL_law_X9_next rfl rfl rfl (by decide +kernel) ⟨(Nat.le_of_ble_eq_true rfl), (Nat.le_of_ble_eq_true rfl)⟩) hOm (by decide) rfl rfl rfl (Nat.le_of_ble_eq_true rfl) ⟨by show C ≤ 616682; omega, by show S ≤ 7252203; omega⟩ dL_law_547 rfl ?_
  refine v_wt (fun hwm2 => ?_)
  refine V.swap (wt_ex hwx) ?_
  refine v_icmp_eq (tgt := 1176) hCx dL_law_550 (by decide) (fun _ => ?_) (fun h => absurd rfl h)
  exact V.widen (by omega) (by omega) (kk n0 ad ids σ' υ' ⟨hR', hids, wt_ex hwm2⟩)
set_option maxHeartbeats 4000000 in
set_option maxRecDepth 100000 in
theorem lw_case13 {adK adV : Nat → Nat} {tb : Nat} {p : Program} {l : Launch} {e : Env} {s : State} {m : MethodId} {below : List Frame} {meth : Method} {c : Code} {A : Nat → Prop} {D : va_G} {cA : Nat → ClassId} {ad adm : Nat → Nat} {ids : List Nat} {b N n0 C S : Nat} {xs : Nat → Int32} {σ υ : HS} {Q : State → Prop} {i0 : Int32} (hX : va_X b N xs s s.heap) (hbl : b < s.heap.size) (hbA : ¬ A b) (hCx : Cx (xE adK adV tb) D cA xY code 4 ret RL wsL_law p s m #[Value.ref b] meth c A) (hCm : Cx mE D cA mY code 4 ret RL wsL_law p s m #[Value.ref b] meth c A) (hI : LI D cA ad ids adm n0 σ υ) (h1 : vp_in (i0 + 1) N) (h2 : vp_in (i0 + 2) N) (h3 : vp_in (i0 + 3) N) (h4 : vp_in (i0 + 4) N) (h5 : vp_in (i0 + 5) N) (hb : C + 18 ≤ 616682 ∧ S + 90 ≤ 7252203) (kk : ∀ (n' : Nat) (ad' : Nat → Nat) (ids' : List Nat) (σ' υ' : HS), LI D cA ad' ids' adm n' σ' υ' → V p l e room_1 s m #[Value.ref b] below meth c 4 A (D, cA, ad', ids', wl (D, cA, adm, idM, []) mY υ') xY (C + 18) (S + 90) Q σ' 1176 [(0, .ref b), (1, .ref (ad' 0)), (2, .ref (adm 0)), (3, .int i0)] []) : V p l e room_1 s m #[Value.ref b] below meth c 4 A (D, cA, ad, ids, wl (D, cA, adm, idM, []) mY υ) xY C S Q σ 555 [(0, .ref b), (1, .ref (ad 0)), (2, .ref (adm 0)), (3, .int i0)] [] := by
  obtain ⟨hR, hids, hwm⟩ := hI
  have hG : GX (D, cA, ad, ids, wl (D, cA, adm, idM, []) mY υ) xY := GX_xS (RelE_8 hR).1 hids
  have hO : Ob (D, cA, ad, ids, wl (D, cA, adm, idM, []) mY υ) xY 0 7 := ⟨(hids 0).mpr (Or.inl (by decide)), rfl⟩
  obtain ⟨r, σ', υ', e1, e2, hR'⟩ := Op_found (xs (i0 + 1).toNatClampNeg) (xs (i0 + 2).toNatClampNeg) hR
  refine v_aload_n hCx dL_law_555 1 rfl ?_
  refine v_aload_n hCx dL_law_556 0 rfl ?_
  refine v_iload_n hCx dL_law_557 3 rfl ?_
  refine v_iconst (v := 1) hCx dL_law_558 (by decide) ?_
  refine v_iadd hCx dL_law_559 ?_
  refine v_sld hCx hX hbl hbA h1 dL_law_560 ?_
  refine v_aload_n hCx dL_law_561 0 rfl ?_
  refine v_iload_n hCx dL_law_562 3 rfl ?_
  refine v_iconst (v := 2) hCx dL_law_563 (by decide) ?_
  refine v_iadd hCx dL_law_564 ?_
  refine v_sld hCx hX hbl hbA h2 dL_law_565 ?_
  refine v_callVI (G := (D, cA, ad, ids, wl (D, cA, adm, idM, []) mY υ)) hCx xE_ok (n := 2) (As := [.int (xs (i0 + 1).toNatClampNeg), .int (xs (i0 + 2).toNatClampNeg)]) (k_X8_found l hG hO e1) (cwV 2 hCx.1.2.2.2.2 gL_law_X8_found rfl rfl rfl (by decide +kernel) ⟨(Nat.le_of_ble_eq_true rfl), (Nat.le_of_ble_eq_true rfl)⟩) hO (by decide) rfl rfl rfl (Nat.le_of_ble_eq_true rfl) ⟨by show C ≤ 616682; omega, by show S ≤ 7252203; omega⟩ dL_law_566 rfl ?_
  refine v_wt (fun hwx => ?_)
  refine V.swap hwm ?_
  refine v_aload_n hCm dL_law_569 2 rfl ?_
  refine v_aload_n hCm dL_law_570 0 rfl ?_
  refine v_iload_n hCm dL_law_571 3 rfl ?_
  refine v_iconst (v := 1) hCm dL_law_572 (by decide) ?_
  refine v_iadd hCm dL_law_573 ?_
  refine v_sld hCm hX hbl hbA h1 dL_law_574 ?_
  refine v_aload_n hCm dL_law_575 0 rfl ?_
  refine v_iload_n hCm dL_law_576 3 rfl ?_
  refine v_iconst (v := 2) hCm dL_law_577 (by decide) ?_
  refine v_iadd hCm dL_law_578 ?_
  refine v_sld hCm hX hbl hbA h2 dL_law_579 ?_
  have hGm : GX (D, cA, adm, idM, wl (D, cA, ad, ids, []) xY σ') mY := GX_idM rfl
  have hOm : Ob (D, cA, adm, idM, wl (D, cA, ad, ids, []) xY σ') mY 0 8 := ⟨(by decide : 0 ∈ idM), rfl⟩
  refine v_callVI (G := (D, cA, adm, idM, wl (D, cA, ad, ids, []) xY σ')) hCm mE_ok (n := 2) (As := [.int (xs (i0 + 1).toNatClampNeg), .int (xs (i0 + 2).toNatClampNeg)]) (k_X9_found l hGm hOm e2) (cwV 2 hCm.1.2.2.2.2 gL_law_X9_found rfl rfl rfl (by decide +kernel) ⟨(Nat.le_of_ble_eq_true rfl), (Nat.le_of_ble_eq_true rfl)⟩) hOm (by decide) rfl rfl rfl (Nat.le_of_ble_eq_true rfl) ⟨by show C ≤ 616682; omega, by show S ≤ 7252203; omega⟩ dL_law_580 rfl ?_
  refine v_wt (fun hwm2 => ?_)
  refine V.swap (wt_ex hwx) ?_
  refine v_icmp_eq (tgt := 1176) hCx dL_law_583 (by decide) (fun _ => ?_) (fun h => absurd rfl h)
  exact V.widen (by omega) (by omega) (kk n0 ad ids σ' υ' ⟨hR', hids, wt_ex hwm2⟩)
set_option maxHeartbeats 4000000 in
set_option maxRecDepth 100000 in
theorem lw_case14 {adK adV : Nat → Nat} {tb : Nat} {p : Program} {l : Launch} {e : Env} {s : State} {m : MethodId} {below : List Frame} {meth : Method} {c : Code} {A : Nat → Prop} {D : va_G} {cA : Nat → ClassId} {ad adm : Nat → Nat} {ids : List Nat} {b N n0 C S : Nat} {xs : Nat → Int32} {σ υ : HS} {Q : State → Prop} {i0 : Int32} (hX : va_X b N xs s s.heap) (hbl : b < s.heap.size) (hbA : ¬ A b) (hCx : Cx (xE adK adV tb) D cA xY code 4 ret RL wsL_law p s m #[Value.ref b] meth c A) (hCm : Cx mE D cA mY code 4 ret RL wsL_law p s m #[Value.ref b] meth c A) (hI : LI D cA ad ids adm n0 σ υ) (h1 : vp_in (i0 + 1) N) (h2 : vp_in (i0 + 2) N) (h3 : vp_in (i0 + 3) N) (h4 : vp_in (i0 + 4) N) (h5 : vp_in (i0 + 5) N) (hb : C + 18 ≤ 616682 ∧ S + 90 ≤ 7252203) (kk : ∀ (n' : Nat) (ad' : Nat → Nat) (ids' : List Nat) (σ' υ' : HS), LI D cA ad' ids' adm n' σ' υ' → V p l e room_1 s m #[Value.ref b] below meth c 4 A (D, cA, ad', ids', wl (D, cA, adm, idM, []) mY υ') xY (C + 18) (S + 90) Q σ' 1176 [(0, .ref b), (1, .ref (ad' 0)), (2, .ref (adm 0)), (3, .int i0)] []) : V p l e room_1 s m #[Value.ref b] below meth c 4 A (D, cA, ad, ids, wl (D, cA, adm, idM, []) mY υ) xY C S Q σ 588 [(0, .ref b), (1, .ref (ad 0)), (2, .ref (adm 0)), (3, .int i0)] [] := by
  obtain ⟨hR, hids, hwm⟩ := hI
  have hG : GX (D, cA, ad, ids, wl (D, cA, adm, idM, []) mY υ) xY := GX_xS (RelE_8 hR).1 hids
  have hO : Ob (D, cA, ad, ids, wl (D, cA, adm, idM, []) mY υ) xY 0 7 := ⟨(hids 0).mpr (Or.inl (by decide)), rfl⟩
  obtain ⟨r, σ', υ', e1, e2, hR'⟩ := Op_run (xs (i0 + 1).toNatClampNeg) (xs (i0 + 2).toNatClampNeg) hR
  refine v_aload_n hCx dL_law_588 1 rfl ?_
  refine v_aload_n hCx dL_law_589 0 rfl ?_
  refine v_iload_n hCx dL_law_590 3 rfl ?_
  refine v_iconst (v := 1) hCx dL_law_591 (by decide) ?_
  refine v_iadd hCx dL_law_592 ?_
  refine v_sld hCx hX hbl hbA h1 dL_law_593 ?_
  refine v_aload_n hCx dL_law_594 0 rfl ?_
  refine v_iload_n hCx dL_law_595 3 rfl ?_
  refine v_iconst (v := 2) hCx dL_law_596 (by decide) ?_
  refine v_iadd hCx dL_law_597 ?_
  refine v_sld hCx hX hbl hbA h2 dL_law_598 ?_
  refine v_callVI (G := (D, cA, ad, ids, wl (D, cA, adm, idM, []) mY υ)) hCx xE_ok (n := 2) (As := [.int (xs (i0 + 1).toNatClampNeg), .int (xs (i0 + 2).toNatClampNeg)]) (k_X8_run l hG hO e1) (cwV 2 hCx.1.2.2.2.2 gL_law_X8_run rfl rfl rfl (by decide +kernel) ⟨(Nat.le_of_ble_eq_true rfl), (Nat.le_of_ble_eq_true rfl)⟩) hO (by decide) rfl rfl rfl (Nat.le_of_ble_eq_true rfl) ⟨by show C ≤ 616682; omega, by show S ≤ 7252203; omega⟩ dL_law_599 rfl ?_
  refine v_wt (fun hwx => ?_)
  refine V.swap hwm ?_
  refine v_aload_n hCm dL_law_602 2 rfl ?_
  refine v_aload_n hCm dL_law_603 0 rfl ?_
  refine v_iload_n hCm dL_law_604 3 rfl ?_
  refine v_iconst (v := 1) hCm dL_law_605 (by decide) ?_
  refine v_iadd hCm dL_law_606 ?_
  refine v_sld hCm hX hbl hbA h1 dL_law_607 ?_
  refine v_aload_n hCm dL_law_608 0 rfl ?_
  refine v_iload_n hCm dL_law_609 3 rfl ?_
  refine v_iconst (v := 2) hCm dL_law_610 (by decide) ?_
  refine v_iadd hCm dL_law_611 ?_
  refine v_sld hCm hX hbl hbA h2 dL_law_612 ?_
  have hGm : GX (D, cA, adm, idM, wl (D, cA, ad, ids, []) xY σ') mY := GX_idM rfl
  have hOm : Ob (D, cA, adm, idM, wl (D, cA, ad, ids, []) xY σ') mY 0 8 := ⟨(by decide : 0 ∈ idM), rfl⟩
  refine v_callVI (G := (D, cA, adm, idM, wl (D, cA, ad, ids, []) xY σ')) hCm mE_ok (n := 2) (As := [.int (xs (i0 + 1).toNatClampNeg), .int (xs (i0 + 2).toNatClampNeg)]) (k_X9_run l hGm hOm e2) (cwV 2 hCm.1.2.2.2.2 gL_law_X9_run rfl rfl rfl (by decide +kernel) ⟨(Nat.le_of_ble_eq_true rfl), (Nat.le_of_ble_eq_true rfl)⟩) hOm (by decide) rfl rfl rfl (Nat.le_of_ble_eq_true rfl) ⟨by show C ≤ 616682; omega, by show S ≤ 7252203; omega⟩ dL_law_613 rfl ?_
  refine v_wt (fun hwm2 => ?_)
  refine V.swap (wt_ex hwx) ?_
  refine v_icmp_eq (tgt := 1176) hCx dL_law_616 (by decide) (fun _ => ?_) (fun h => absurd rfl h)
  exact V.widen (by omega) (by omega) (kk n0 ad ids σ' υ' ⟨hR', hids, wt_ex hwm2⟩)
set_option maxHeartbeats 4000000 in
set_option maxRecDepth 100000 in
theorem lw_case15 {adK adV : Nat → Nat} {tb : Nat} {p : Program} {l : Launch} {e : Env} {s : State} {m : MethodId} {below : List Frame} {meth : Method} {c : Code} {A : Nat → Prop} {D : va_G} {cA : Nat → ClassId} {ad adm : Nat → Nat} {ids : List Nat} {b N n0 C S : Nat} {xs : Nat → Int32} {σ υ : HS} {Q : State → Prop} {i0 : Int32} (hX : va_X b N xs s s.heap) (hbl : b < s.heap.size) (hbA : ¬ A b) (hCx : Cx (xE adK adV tb) D cA xY code 4 ret RL wsL_law p s m #[Value.ref b] meth c A) (hCm : Cx mE D cA mY code 4 ret RL wsL_law p s m #[Value.ref b] meth c A) (hI : LI D cA ad ids adm n0 σ υ) (h1 : vp_in (i0 + 1) N) (h2 : vp_in (i0 + 2) N) (h3 : vp_in (i0 + 3) N) (h4 : vp_in (i0 + 4) N) (h5 : vp_in (i0 + 5) N) (hb : C + 18 ≤ 616682 ∧ S + 90 ≤ 7252203) (kk : ∀ (n' : Nat) (ad' : Nat → Nat) (ids' : List Nat) (σ' υ' : HS), LI D cA ad' ids' adm n' σ' υ' → V p l e room_1 s m #[Value.ref b] below meth c 4 A (D, cA, ad', ids', wl (D, cA, adm, idM, []) mY υ') xY (C + 18) (S + 90) Q σ' 1176 [(0, .ref b), (1, .ref (ad' 0)), (2, .ref (adm 0)), (3, .int i0)] []) : V p l e room_1 s m #[Value.ref b] below meth c 4 A (D, cA, ad, ids, wl (D, cA, adm, idM, []) mY υ) xY C S Q σ 621 [(0, .ref b), (1, .ref (ad 0)), (2, .ref (adm 0)), (3, .int i0)] [] := by
  obtain ⟨hR, hids, hwm⟩ := hI
  have hG : GX (D, cA, ad, ids, wl (D, cA, adm, idM, []) mY υ) xY := GX_xS (RelE_8 hR).1 hids
  have hO : Ob (D, cA, ad, ids, wl (D, cA, adm, idM, []) mY υ) xY 0 7 := ⟨(hids 0).mpr (Or.inl (by decide)), rfl⟩
  obtain ⟨r, σ', υ', e1, e2, hR'⟩ := Op_closed (xs (i0 + 1).toNatClampNeg) (xs (i0 + 2).toNatClampNeg) hR
  refine v_aload_n hCx dL_law_621 1 rfl ?_
  refine v_aload_n hCx dL_law_622 0 rfl ?_
  refine v_iload_n hCx dL_law_623 3 rfl ?_
  refine v_iconst (v := 1) hCx dL_law_624 (by decide) ?_
  refine v_iadd hCx dL_law_625 ?_
  refine v_sld hCx hX hbl hbA h1 dL_law_626 ?_
  refine v_aload_n hCx dL_law_627 0 rfl ?_
  refine v_iload_n hCx dL_law_628 3 rfl ?_
  refine v_iconst (v := 2) hCx dL_law_629 (by decide) ?_
  refine v_iadd hCx dL_law_630 ?_
  refine v_sld hCx hX hbl hbA h2 dL_law_631 ?_
  refine v_callVJ (G := (D, cA, ad, ids, wl (D, cA, adm, idM, []) mY υ)) hCx xE_ok (n := 2) (As := [.int (xs (i0 + 1).toNatClampNeg), .int (xs (i0 + 2).toNatClampNeg)]) (k_X8_closed l hG hO e1) (cwV 2 hCx.1.2.2.2.2 gL_law_X8_closed rfl rfl rfl (by decide +kernel) ⟨(Nat.le_of_ble_eq_true rfl), (Nat.le_of_ble_eq_true rfl)⟩) hO (by decide) rfl rfl rfl (Nat.le_of_ble_eq_true rfl) ⟨by show C ≤ 616682; omega, by show S ≤ 7252203; omega⟩ dL_law_632 rfl ?_
  refine v_wt (fun hwx => ?_)
  refine V.swap hwm ?_
  refine v_aload_n hCm dL_law_635 2 rfl ?_
  refine v_aload_n hCm dL_law_636 0 rfl ?_
  refine v_iload_n hCm dL_law_637 3 rfl ?_
  refine v_iconst (v := 1) hCm dL_law_638 (by decide) ?_
  refine v_iadd hCm dL_law_639 ?_
  refine v_sld hCm hX hbl hbA h1 dL_law_640 ?_
  refine v_aload_n hCm dL_law_641 0 rfl ?_
  refine v_iload_n hCm dL_law_642 3 rfl ?_
  refine v_iconst (v := 2) hCm dL_law_643 (by decide) ?_
  refine v_iadd hCm dL_law_644 ?_
  refine v_sld hCm hX hbl hbA h2 dL_law_645 ?_
  have hGm : GX (D, cA, adm, idM, wl (D, cA, ad, ids, []) xY σ') mY := GX_idM rfl
  have hOm : Ob (D, cA, adm, idM, wl (D, cA, ad, ids, []) xY σ') mY 0 8 := ⟨(by decide : 0 ∈ idM), rfl⟩
  refine v_callVJ (G := (D, cA, adm, idM, wl (D, cA, ad, ids, []) xY σ')) hCm mE_ok (n := 2) (As := [.int (xs (i0 + 1).toNatClampNeg), .int (xs (i0 + 2).toNatClampNeg)]) (k_X9_closed l hGm hOm e2) (cwV 2 hCm.1.2.2.2.2 gL_law_X9_closed rfl rfl rfl (by decide +kernel) ⟨(Nat.le_of_ble_eq_true rfl), (Nat.le_of_ble_eq_true rfl)⟩) hOm (by decide) rfl rfl rfl (Nat.le_of_ble_eq_true rfl) ⟨by show C ≤ 616682; omega, by show S ≤ 7252203; omega⟩ dL_law_646 rfl ?_
  refine v_wt (fun hwm2 => ?_)
  refine V.swap (wt_ex hwx) ?_
  refine v_lcmp hCx dL_law_649 ?_
  refine v_if_eq (tgt := 1176) hCx dL_law_650 (by decide) (fun _ => ?_) (fun h => absurd ((lg_cmp_eq _ _).mpr rfl) h)
  exact V.widen (by omega) (by omega) (kk n0 ad ids σ' υ' ⟨hR', hids, wt_ex hwm2⟩)
