/-! THE LAW: its calls -/
set_option maxHeartbeats 4000000 in
set_option maxRecDepth 100000 in
theorem lw_case1 {adK adV : Nat → Nat} {tb : Nat} {p : Program} {l : Launch} {e : Env} {s : State} {m : MethodId} {below : List Frame} {meth : Method} {c : Code} {A : Nat → Prop} {D : va_G} {cA : Nat → ClassId} {ad adm : Nat → Nat} {ids : List Nat} {b N n0 C S : Nat} {xs : Nat → Int32} {σ υ : HS} {Q : State → Prop} {i0 : Int32} (hX : va_X b N xs s s.heap) (hbl : b < s.heap.size) (hbA : ¬ A b) (hCx : Cx (xE adK adV tb) D cA xY code 4 ret RL wsL_law p s m #[Value.ref b] meth c A) (hCm : Cx mE D cA mY code 4 ret RL wsL_law p s m #[Value.ref b] meth c A) (hI : LI D cA ad ids adm n0 σ υ) (h1 : vp_in (i0 + 1) N) (h2 : vp_in (i0 + 2) N) (h3 : vp_in (i0 + 3) N) (h4 : vp_in (i0 + 4) N) (h5 : vp_in (i0 + 5) N) (hb : C + 18 ≤ 616682 ∧ S + 90 ≤ 7252203) (kk : ∀ (n' : Nat) (ad' : Nat → Nat) (ids' : List Nat) (σ' υ' : HS), LI D cA ad' ids' adm n' σ' υ' → V p l e room_1 s m #[Value.ref b] below meth c 4 A (D, cA, ad', ids', wl (D, cA, adm, idM, []) mY υ') xY (C + 18) (S + 90) Q σ' 1176 [(0, .ref b), (1, .ref (ad' 0)), (2, .ref (adm 0)), (3, .int i0)] []) : V p l e room_1 s m #[Value.ref b] below meth c 4 A (D, cA, ad, ids, wl (D, cA, adm, idM, []) mY υ) xY C S Q σ 199 [(0, .ref b), (1, .ref (ad 0)), (2, .ref (adm 0)), (3, .int i0)] [] := by
  obtain ⟨hR, hids, hwm⟩ := hI
  have hG : GX (D, cA, ad, ids, wl (D, cA, adm, idM, []) mY υ) xY := GX_xS (RelE_8 hR).1 hids
  have hO : Ob (D, cA, ad, ids, wl (D, cA, adm, idM, []) mY υ) xY 0 7 := ⟨(hids 0).mpr (Or.inl (by decide)), rfl⟩
  obtain ⟨r, σ', υ', e1, e2, hR'⟩ := Op_looks (xs (i0 + 1).toNatClampNeg) hR
  refine v_aload_n hCx dL_law_199 1 rfl ?_
  refine v_aload_n hCx dL_law_200 0 rfl ?_
  refine v_iload_n hCx dL_law_201 3 rfl ?_
  refine v_iconst (v := 1) hCx dL_law_202 (by decide) ?_
  refine v_iadd hCx dL_law_203 ?_
  refine v_sld hCx hX hbl hbA h1 dL_law_204 ?_
  refine v_callVI (G := (D, cA, ad, ids, wl (D, cA, adm, idM, []) mY υ)) hCx xE_ok (n := 1) (As := [.int (xs (i0 + 1).toNatClampNeg)]) (k_X8_looks l hG hO e1) (cwV 1 hCx.1.2.2.2.2 gL_law_X8_looks rfl rfl rfl (by decide +kernel) ⟨(Nat.le_of_ble_eq_true rfl), (Nat.le_of_ble_eq_true rfl)⟩) hO (by decide) rfl rfl rfl (Nat.le_of_ble_eq_true rfl) ⟨by show C ≤ 616682; omega, by show S ≤ 7252203; omega⟩ dL_law_205 rfl ?_
  refine v_wt (fun hwx => ?_)
  refine V.swap hwm ?_
  refine v_aload_n hCm dL_law_208 2 rfl ?_
  refine v_aload_n hCm dL_law_209 0 rfl ?_
  refine v_iload_n hCm dL_law_210 3 rfl ?_
  refine v_iconst (v := 1) hCm dL_law_211 (by decide) ?_
  refine v_iadd hCm dL_law_212 ?_
  refine v_sld hCm hX hbl hbA h1 dL_law_213 ?_
  have hGm : GX (D, cA, adm, idM, wl (D, cA, ad, ids, []) xY σ') mY := GX_idM rfl
  have hOm : Ob (D, cA, adm, idM, wl (D, cA, ad, ids, []) xY σ') mY 0 8 := ⟨(by decide : 0 ∈ idM), rfl⟩
  refine v_callVI (G := (D, cA, adm, idM, wl (D, cA, ad, ids, []) xY σ')) hCm mE_ok (n := 1) (As := [.int (xs (i0 + 1).toNatClampNeg)]) (k_X9_looks l hGm hOm e2) (cwV 1 hCm.1.2.2.2.2 gL_law_X9_looks rfl rfl rfl (by decide +kernel) ⟨(Nat.le_of_ble_eq_true rfl), (Nat.le_of_ble_eq_true rfl)⟩) hOm (by decide) rfl rfl rfl (Nat.le_of_ble_eq_true rfl) ⟨by show C ≤ 616682; omega, by show S ≤ 7252203; omega⟩ dL_law_214 rfl ?_
  refine v_wt (fun hwm2 => ?_)
  refine V.swap (wt_ex hwx) ?_
  refine v_icmp_eq (tgt := 1176) hCx dL_law_217 (by decide) (fun _ => ?_) (fun h => absurd rfl h)
  exact V.widen (by omega) (by omega) (kk n0 ad ids σ' υ' ⟨hR', hids, wt_ex hwm2⟩)
set_option maxHeartbeats 4000000 in
set_option maxRecDepth 100000 in
theorem lw_case2 {adK adV : Nat → Nat} {tb : Nat} {p : Program} {l : Launch} {e : Env} {s : State} {m : MethodId} {below : List Frame} {meth : Method} {c : Code} {A : Nat → Prop} {D : va_G} {cA : Nat → ClassId} {ad adm : Nat → Nat} {ids : List Nat} {b N n0 C S : Nat} {xs : Nat → Int32} {σ υ : HS} {Q : State → Prop} {i0 : Int32} (hX : va_X b N xs s s.heap) (hbl : b < s.heap.size) (hbA : ¬ A b) (hCx : Cx (xE adK adV tb) D cA xY code 4 ret RL wsL_law p s m #[Value.ref b] meth c A) (hCm : Cx mE D cA mY code 4 ret RL wsL_law p s m #[Value.ref b] meth c A) (hI : LI D cA ad ids adm n0 σ υ) (h1 : vp_in (i0 + 1) N) (h2 : vp_in (i0 + 2) N) (h3 : vp_in (i0 + 3) N) (h4 : vp_in (i0 + 4) N) (h5 : vp_in (i0 + 5) N) (hb : C + 18 ≤ 616682 ∧ S + 90 ≤ 7252203) (kk : ∀ (n' : Nat) (ad' : Nat → Nat) (ids' : List Nat) (σ' υ' : HS), LI D cA ad' ids' adm n' σ' υ' → V p l e room_1 s m #[Value.ref b] below meth c 4 A (D, cA, ad', ids', wl (D, cA, adm, idM, []) mY υ') xY (C + 18) (S + 90) Q σ' 1176 [(0, .ref b), (1, .ref (ad' 0)), (2, .ref (adm 0)), (3, .int i0)] []) : V p l e room_1 s m #[Value.ref b] below meth c 4 A (D, cA, ad, ids, wl (D, cA, adm, idM, []) mY υ) xY C S Q σ 222 [(0, .ref b), (1, .ref (ad 0)), (2, .ref (adm 0)), (3, .int i0)] [] := by
  obtain ⟨hR, hids, hwm⟩ := hI
  have hG : GX (D, cA, ad, ids, wl (D, cA, adm, idM, []) mY υ) xY := GX_xS (RelE_8 hR).1 hids
  have hO : Ob (D, cA, ad, ids, wl (D, cA, adm, idM, []) mY υ) xY 0 7 := ⟨(hids 0).mpr (Or.inl (by decide)), rfl⟩
  obtain ⟨r, σ', υ', e1, e2, hR'⟩ := Op_lay (xs (i0 + 1).toNatClampNeg) hR
  refine v_aload_n hCx dL_law_222 1 rfl ?_
  refine v_aload_n hCx dL_law_223 0 rfl ?_
  refine v_iload_n hCx dL_law_224 3 rfl ?_
  refine v_iconst (v := 1) hCx dL_law_225 (by decide) ?_
  refine v_iadd hCx dL_law_226 ?_
  refine v_sld hCx hX hbl hbA h1 dL_law_227 ?_
  refine v_callVI (G := (D, cA, ad, ids, wl (D, cA, adm, idM, []) mY υ)) hCx xE_ok (n := 1) (As := [.int (xs (i0 + 1).toNatClampNeg)]) (k_X8_lay l hG hO e1) (cwV 1 hCx.1.2.2.2.2 gL_law_X8_lay rfl rfl rfl (by decide +kernel) ⟨(Nat.le_of_ble_eq_true rfl), (Nat.le_of_ble_eq_true rfl)⟩) hO (by decide) rfl rfl rfl (Nat.le_of_ble_eq_true rfl) ⟨by show C ≤ 616682; omega, by show S ≤ 7252203; omega⟩ dL_law_228 rfl ?_
  refine v_wt (fun hwx => ?_)
  refine V.swap hwm ?_
  refine v_aload_n hCm dL_law_231 2 rfl ?_
  refine v_aload_n hCm dL_law_232 0 rfl ?_
  refine v_iload_n hCm dL_law_233 3 rfl ?_
  refine v_iconst (v := 1) hCm dL_law_234 (by decide) ?_
  refine v_iadd hCm dL_law_235 ?_
  refine v_sld hCm hX hbl hbA h1 dL_law_236 ?_
  have hGm : GX (D, cA, adm, idM, wl (D, cA, ad, ids, []) xY σ') mY := GX_idM rfl
  have hOm : Ob (D, cA, adm, idM, wl (D, cA, ad, ids, []) xY σ') mY 0 8 := ⟨(by decide : 0 ∈ idM), rfl⟩
  refine v_callVI (G := (D, cA, adm, idM, wl (D, cA, ad, ids, []) xY σ')) hCm mE_ok (n := 1) (As := [.int (xs (i0 + 1).toNatClampNeg)]) (k_X9_lay l hGm hOm e2) (cwV 1 hCm.1.2.2.2.2 gL_law_X9_lay rfl rfl rfl (by decide +kernel) ⟨(Nat.le_of_ble_eq_true rfl), (Nat.le_of_ble_eq_true rfl)⟩) hOm (by decide) rfl rfl rfl (Nat.le_of_ble_eq_true rfl) ⟨by show C ≤ 616682; omega, by show S ≤ 7252203; omega⟩ dL_law_237 rfl ?_
  refine v_wt (fun hwm2 => ?_)
  refine V.swap (wt_ex hwx) ?_
  refine v_icmp_eq (tgt := 1176) hCx dL_law_240 (by decide) (fun _ => ?_) (fun h => absurd rfl h)
  exact V.widen (by omega) (by omega) (kk n0 ad ids σ' υ' ⟨hR', hids, wt_ex hwm2⟩)
set_option maxHeartbeats 4000000 in
set_option maxRecDepth 100000 in
theorem lw_case3 {adK adV : Nat → Nat} {tb : Nat} {p : Program} {l : Launch} {e : Env} {s : State} {m : MethodId} {below : List Frame} {meth : Method} {c : Code} {A : Nat → Prop} {D : va_G} {cA : Nat → ClassId} {ad adm : Nat → Nat} {ids : List Nat} {b N n0 C S : Nat} {xs : Nat → Int32} {σ υ : HS} {Q : State → Prop} {i0 : Int32} (hX : va_X b N xs s s.heap) (hbl : b < s.heap.size) (hbA : ¬ A b) (hCx : Cx (xE adK adV tb) D cA xY code 4 ret RL wsL_law p s m #[Value.ref b] meth c A) (hCm : Cx mE D cA mY code 4 ret RL wsL_law p s m #[Value.ref b] meth c A) (hI : LI D cA ad ids adm n0 σ υ) (h1 : vp_in (i0 + 1) N) (h2 : vp_in (i0 + 2) N) (h3 : vp_in (i0 + 3) N) (h4 : vp_in (i0 + 4) N) (h5 : vp_in (i0 + 5) N) (hb : C + 18 ≤ 616682 ∧ S + 90 ≤ 7252203) (kk : ∀ (n' : Nat) (ad' : Nat → Nat) (ids' : List Nat) (σ' υ' : HS), LI D cA ad' ids' adm n' σ' υ' → V p l e room_1 s m #[Value.ref b] below meth c 4 A (D, cA, ad', ids', wl (D, cA, adm, idM, []) mY υ') xY (C + 18) (S + 90) Q σ' 1176 [(0, .ref b), (1, .ref (ad' 0)), (2, .ref (adm 0)), (3, .int i0)] []) : V p l e room_1 s m #[Value.ref b] below meth c 4 A (D, cA, ad, ids, wl (D, cA, adm, idM, []) mY υ) xY C S Q σ 245 [(0, .ref b), (1, .ref (ad 0)), (2, .ref (adm 0)), (3, .int i0)] [] := by
  obtain ⟨hR, hids, hwm⟩ := hI
  have hG : GX (D, cA, ad, ids, wl (D, cA, adm, idM, []) mY υ) xY := GX_xS (RelE_8 hR).1 hids
  have hO : Ob (D, cA, ad, ids, wl (D, cA, adm, idM, []) mY υ) xY 0 7 := ⟨(hids 0).mpr (Or.inl (by decide)), rfl⟩
  obtain ⟨r, σ', υ', e1, e2, hR'⟩ := Op_swap (xs (i0 + 1).toNatClampNeg) (xs (i0 + 2).toNatClampNeg) hR
  refine v_aload_n hCx dL_law_245 1 rfl ?_
  refine v_aload_n hCx dL_law_246 0 rfl ?_
  refine v_iload_n hCx dL_law_247 3 rfl ?_
  refine v_iconst (v := 1) hCx dL_law_248 (by decide) ?_
  refine v_iadd hCx dL_law_249 ?_
  refine v_sld hCx hX hbl hbA h1 dL_law_250 ?_
  refine v_aload_n hCx dL_law_251 0 rfl ?_
  refine v_iload_n hCx dL_law_252 3 rfl ?_
  refine v_iconst (v := 2) hCx dL_law_253 (by decide) ?_
  refine v_iadd hCx dL_law_254 ?_
  refine v_sld hCx hX hbl hbA h2 dL_law_255 ?_
  refine v_callVI (G := (D, cA, ad, ids, wl (D, cA, adm, idM, []) mY υ)) hCx xE_ok (n := 2) (As := [.int (xs (i0 + 1).toNatClampNeg), .int (xs (i0 + 2).toNatClampNeg)]) (k_X8_swap l hG hO e1) (cwV 2 hCx.1.2.2.2.2 gL_law_X8_swap rfl rfl rfl (by decide +kernel) ⟨(Nat.le_of_ble_eq_true rfl), (Nat.le_of_ble_eq_true rfl)⟩) hO (by decide) rfl rfl rfl (Nat.le_of_ble_eq_true rfl) ⟨by show C ≤ 616682; omega, by show S ≤ 7252203; omega⟩ dL_law_256 rfl ?_
  refine v_wt (fun hwx => ?_)
  refine V.swap hwm ?_
  refine v_aload_n hCm dL_law_259 2 rfl ?_
  refine v_aload_n hCm dL_law_260 0 rfl ?_
  refine v_iload_n hCm dL_law_261 3 rfl ?_
  refine v_iconst (v := 1) hCm dL_law_262 (by decide) ?_
  refine v_iadd hCm dL_law_263 ?_
  refine v_sld hCm hX hbl hbA h1 dL_law_264 ?_
  refine v_aload_n hCm dL_law_265 0 rfl ?_
  refine v_iload_n hCm dL_law_266 3 rfl ?_
  refine v_iconst (v := 2) hCm dL_law_267 (by decide) ?_
  refine v_iadd hCm dL_law_268 ?_
  refine v_sld hCm hX hbl hbA h2 dL_law_269 ?_
  have hGm : GX (D, cA, adm, idM, wl (D, cA, ad, ids, []) xY σ') mY := GX_idM rfl
  have hOm : Ob (D, cA, adm, idM, wl (D, cA, ad, ids, []) xY σ') mY 0 8 := ⟨(by decide : 0 ∈ idM), rfl⟩
  refine v_callVI (G := (D, cA, adm, idM, wl (D, cA, ad, ids, []) xY σ')) hCm mE_ok (n := 2) (As := [.int (xs (i0 + 1).toNatClampNeg), .int (xs (i0 + 2).toNatClampNeg)]) (k_X9_swap l hGm hOm e2) (cwV 2 hCm.1.2.2.2.2 gL_law_X9_swap rfl rfl rfl (by decide +kernel) ⟨(Nat.le_of_ble_eq_true rfl), (Nat.le_of_ble_eq_true rfl)⟩) hOm (by decide) rfl rfl rfl (Nat.le_of_ble_eq_true rfl) ⟨by show C ≤ 616682; omega, by show S ≤ 7252203; omega⟩ dL_law_270 rfl ?_
  refine v_wt (fun hwm2 => ?_)
  refine V.swap (wt_ex hwx) ?_
  refine v_icmp_eq (tgt := 1176) hCx dL_law_273 (by decide) (fun _ => ?_) (fun h => absurd rfl h)
  exact V.widen (by omega) (by omega) (kk n0 ad ids σ' υ' ⟨hR', hids, wt_ex hwm2⟩)
set_option maxHeartbeats 4000000 in
set_option maxRecDepth 100000 in
theorem lw_case4 {adK adV : Nat → Nat} {tb : Nat} {p : Program} {l : Launch} {e : Env} {s : State} {m : MethodId} {below : List Frame} {meth : Method} {c : Code} {A : Nat → Prop} {D : va_G} {cA : Nat → ClassId} {ad adm : Nat → Nat} {ids : List Nat} {b N n0 C S : Nat} {xs : Nat → Int32} {σ υ : HS} {Q : State → Prop} {i0 : Int32} (hX : va_X b N xs s s.heap) (hbl : b < s.heap.size) (hbA : ¬ A b) (hCx : Cx (xE adK adV tb) D cA xY code 4 ret RL wsL_law p s m #[Value.ref b] meth c A) (hCm : Cx mE D cA mY code 4 ret RL wsL_law p s m #[Value.ref b] meth c A) (hI : LI D cA ad ids adm n0 σ υ) (h1 : vp_in (i0 + 1) N) (h2 : vp_in (i0 + 2) N) (h3 : vp_in (i0 + 3) N) (h4 : vp_in (i0 + 4) N) (h5 : vp_in (i0 + 5) N) (hb : C + 18 ≤ 616682 ∧ S + 90 ≤ 7252203) (kk : ∀ (n' : Nat) (ad' : Nat → Nat) (ids' : List Nat) (σ' υ' : HS), LI D cA ad' ids' adm n' σ' υ' → V p l e room_1 s m #[Value.ref b] below meth c 4 A (D, cA, ad', ids', wl (D, cA, adm, idM, []) mY υ') xY (C + 18) (S + 90) Q σ' 1176 [(0, .ref b), (1, .ref (ad' 0)), (2, .ref (adm 0)), (3, .int i0)] []) : V p l e room_1 s m #[Value.ref b] below meth c 4 A (D, cA, ad, ids, wl (D, cA, adm, idM, []) mY υ) xY C S Q σ 278 [(0, .ref b), (1, .ref (ad 0)), (2, .ref (adm 0)), (3, .int i0)] [] := by
  obtain ⟨hR, hids, hwm⟩ := hI
  have hG : GX (D, cA, ad, ids, wl (D, cA, adm, idM, []) mY υ) xY := GX_xS (RelE_8 hR).1 hids
  have hO : Ob (D, cA, ad, ids, wl (D, cA, adm, idM, []) mY υ) xY 0 7 := ⟨(hids 0).mpr (Or.inl (by decide)), rfl⟩
  obtain ⟨r, σ', υ', e1, e2, hR'⟩ := Op_empty (xs (i0 + 1).toNatClampNeg) hR
  refine v_aload_n hCx dL_law_278 1 rfl ?_
  refine v_aload_n hCx dL_law_279 0 rfl ?_
  refine v_iload_n hCx dL_law_280 3 rfl ?_
  refine v_iconst (v := 1) hCx dL_law_281 (by decide) ?_
  refine v_iadd hCx dL_law_282 ?_
  refine v_sld hCx hX hbl hbA h1 dL_law_283 ?_
  refine v_callVI (G := (D, cA, ad, ids, wl (D, cA, adm, idM, []) mY υ)) hCx xE_ok (n := 1) (As := [.int (xs (i0 + 1).toNatClampNeg)]) (k_X8_empty l hG hO e1) (cwV 1 hCx.1.2.2.2.2 gL_law_X8_empty rfl rfl rfl (by decide +kernel) ⟨(Nat.le_of_ble_eq_true rfl), (Nat.le_of_ble_eq_true rfl)⟩) hO (by decide) rfl rfl rfl (Nat.le_of_ble_eq_true rfl) ⟨by show C ≤ 616682; omega, by show S ≤ 7252203; omega⟩ dL_law_284 rfl ?_
  refine v_wt (fun hwx => ?_)
  refine V.swap hwm ?_
  refine v_aload_n hCm dL_law_287 2 rfl ?_
  refine v_aload_n hCm dL_law_288 0 rfl ?_
  refine v_iload_n hCm dL_law_289 3 rfl ?_
  refine v_iconst (v := 1) hCm dL_law_290 (by decide) ?_
  refine v_iadd hCm dL_law_291 ?_
  refine v_sld hCm hX hbl hbA h1 dL_law_292 ?_
  have hGm : GX (D, cA, adm, idM, wl (D, cA, ad, ids, []) xY σ') mY := GX_idM rfl
  have hOm : Ob (D, cA, adm, idM, wl (D, cA, ad, ids, []) xY σ') mY 0 8 := ⟨(by decide : 0 ∈ idM), rfl⟩
  refine v_callVI (G := (D, cA, adm, idM, wl (D, cA, ad, ids, []) xY σ')) hCm mE_ok (n := 1) (As := [.int (xs (i0 + 1).toNatClampNeg)]) (k_X9_empty l hGm hOm e2) (cwV 1 hCm.1.2.2.2.2 gL_law_X9_empty rfl rfl rfl (by decide +kernel) ⟨(Nat.le_of_ble_eq_true rfl), (Nat.le_of_ble_eq_true rfl)⟩) hOm (by decide) rfl rfl rfl (Nat.le_of_ble_eq_true rfl) ⟨by show C ≤ 616682; omega, by show S ≤ 7252203; omega⟩ dL_law_293 rfl ?_
  refine v_wt (fun hwm2 => ?_)
  refine V.swap (wt_ex hwx) ?_
  refine v_icmp_eq (tgt := 1176) hCx dL_law_296 (by decide) (fun _ => ?_) (fun h => absurd rfl h)
  exact V.widen (by omega) (by omega) (kk n0 ad ids σ' υ' ⟨hR', hids, wt_ex hwm2⟩)
set_option maxHeartbeats 4000000 in
set_option maxRecDepth 100000 in
theorem lw_case5 {adK adV : Nat → Nat} {tb : Nat} {p : Program} {l : Launch} {e : Env} {s : State} {m : MethodId} {below : List Frame} {meth : Method} {c : Code} {A : Nat → Prop} {D : va_G} {cA : Nat → ClassId} {ad adm : Nat → Nat} {ids : List Nat} {b N n0 C S : Nat} {xs : Nat → Int32} {σ υ : HS} {Q : State → Prop} {i0 : Int32} (hX : va_X b N xs s s.heap) (hbl : b < s.heap.size) (hbA : ¬ A b) (hCx : Cx (xE adK adV tb) D cA xY code 4 ret RL wsL_law p s m #[Value.ref b] meth c A) (hCm : Cx mE D cA mY code 4 ret RL wsL_law p s m #[Value.ref b] meth c A) (hI : LI D cA ad ids adm n0 σ υ) (h1 : vp_in (i0 + 1) N) (h2 : vp_in (i0 + 2) N) (h3 : vp_in (i0 + 3) N) (h4 : vp_in (i0 + 4) N) (h5 : vp_in (i0 + 5) N) (hb : C + 18 ≤ 616682 ∧ S + 90 ≤ 7252203) (kk : ∀ (n' : Nat) (ad' : Nat → Nat) (ids' : List Nat) (σ' υ' : HS), LI D cA ad' ids' adm n' σ' υ' → V p l e room_1 s m #[Value.ref b] below meth c 4 A (D, cA, ad', ids', wl (D, cA, adm, idM, []) mY υ') xY (C + 18) (S + 90) Q σ' 1176 [(0, .ref b), (1, .ref (ad' 0)), (2, .ref (adm 0)), (3, .int i0)] []) : V p l e room_1 s m #[Value.ref b] below meth c 4 A (D, cA, ad, ids, wl (D, cA, adm, idM, []) mY υ) xY C S Q σ 301 [(0, .ref b), (1, .ref (ad 0)), (2, .ref (adm 0)), (3, .int i0)] [] := by
  obtain ⟨hR, hids, hwm⟩ := hI
  have hG : GX (D, cA, ad, ids, wl (D, cA, adm, idM, []) mY υ) xY := GX_xS (RelE_8 hR).1 hids
  have hO : Ob (D, cA, ad, ids, wl (D, cA, adm, idM, []) mY υ) xY 0 7 := ⟨(hids 0).mpr (Or.inl (by decide)), rfl⟩
  obtain ⟨r, σ', υ', e1, e2, hR'⟩ := Op_box (xs (i0 + 1).toNatClampNeg) (xs (i0 + 2).toNatClampNeg) hR
  refine v_aload_n hCx dL_law_301 1 rfl ?_
  refine v_aload_n hCx dL_law_302 0 rfl ?_
  refine v_iload_n hCx dL_law_303 3 rfl ?_
  refine v_iconst (v := 1) hCx dL_law_304 (by decide) ?_
  refine v_iadd hCx dL_law_305 ?_
  refine v_sld hCx hX hbl hbA h1 dL_law_306 ?_
  refine v_aload_n hCx dL_law_307 0 rfl ?_
  refine v_iload_n hCx dL_law_308 3 rfl ?_
  refine v_iconst (v := 2) hCx dL_law_309 (by decide) ?_
  refine v_iadd hCx dL_law_310 ?_
  refine v_sld hCx hX hbl hbA h2 dL_law_311 ?_
  refine v_callVI (G := (D, cA, ad, ids, wl (D, cA, adm, idM, []) mY υ)) hCx xE_ok (n := 2) (As := [.int (xs (i0 + 1).toNatClampNeg), .int (xs (i0 + 2).toNatClampNeg)]) (k_X8_box l hG hO e1) (cwV 2 hCx.1.2.2.2.2 gL_law_X8_box rfl rfl rfl (by decide +kernel) ⟨(Nat.le_of_ble_eq_true rfl), (Nat.le_of_ble_eq_true rfl)⟩) hO (by decide) rfl rfl rfl (Nat.le_of_ble_eq_true rfl) ⟨by show C ≤ 616682; omega, by show S ≤ 7252203; omega⟩ dL_law_312 rfl ?_
  refine v_wt (fun hwx => ?_)
  refine V.swap hwm ?_
  refine v_aload_n hCm dL_law_315 2 rfl ?_
  refine v_aload_n hCm dL_law_316 0 rfl ?_
  refine v_iload_n hCm dL_law_317 3 rfl ?_
  refine v_iconst (v := 1) hCm dL_law_318 (by decide) ?_
  refine v_iadd hCm dL_law_319 ?_
  refine v_sld hCm hX hbl hbA h1 dL_law_320 ?_
  refine v_aload_n hCm dL_law_321 0 rfl ?_
  refine v_iload_n hCm dL_law_322 3 rfl ?_
  refine v_iconst (v := 2) hCm dL_law_323 (by decide) ?_
  refine v_iadd hCm dL_law_324 ?_
  refine v_sld hCm hX hbl hbA h2 dL_law_325 ?_
  have hGm : GX (D, cA, adm, idM, wl (D, cA, ad, ids, []) xY σ') mY := GX_idM rfl
  have hOm : Ob (D, cA, adm, idM, wl (D, cA, ad, ids, []) xY σ') mY 0 8 := ⟨(by decide : 0 ∈ idM), rfl⟩
  refine v_callVI (G := (D, cA, adm, idM, wl (D, cA, ad, ids, []) xY σ')) hCm mE_ok (n := 2) (As := [.int (xs (i0 + 1).toNatClampNeg), .int (xs (i0 + 2).toNatClampNeg)]) (k_X9_box l hGm hOm e2) (cwV 2 hCm.1.2.2.2.2 gL_law_X9_box rfl rfl rfl (by decide +kernel) ⟨(Nat.le_of_ble_eq_true rfl), (Nat.le_of_ble_eq_true rfl)⟩) hOm (by decide) rfl rfl rfl (Nat.le_of_ble_eq_true rfl) ⟨by show C ≤ 616682; omega, by show S ≤ 7252203; omega⟩ dL_law_326 rfl ?_
  refine v_wt (fun hwm2 => ?_)
  refine V.swap (wt_ex hwx) ?_
  refine v_icmp_eq (tgt := 1176) hCx dL_law_329 (by decide) (fun _ => ?_) (fun h => absurd rfl h)
  exact V.widen (by omega) (by omega) (kk n0 ad ids σ' υ' ⟨hR', hids, wt_ex hwm2⟩)
set_option maxHeartbeats 4000000 in
set_option maxRecDepth 100000 in
theorem lw_case6 {adK adV : Nat → Nat} {tb : Nat} {p : Program} {l : Launch} {e : Env} {s : State} {m : MethodId} {below : List Frame} {meth : Method} {c : Code} {A : Nat → Prop} {D : va_G} {cA : Nat → ClassId} {ad adm : Nat → Nat} {ids : List Nat} {b N n0 C S : Nat} {xs : Nat → Int32} {σ υ : HS} {Q : State → Prop} {i0 : Int32} (hX : va_X b N xs s s.heap) (hbl : b < s.heap.size) (hbA : ¬ A b) (hCx : Cx (xE adK adV tb) D cA xY code 4 ret RL wsL_law p s m #[Value.ref b] meth c A) (hCm : Cx mE D cA mY code 4 ret RL wsL_law p s m #[Value.ref b] meth c A) (hI : LI D cA ad ids adm n0 σ υ) (h1 : vp_in (i0 + 1) N) (h2 : vp_in (i0 + 2) N) (h3 : vp_in (i0 + 3) N) (h4 : vp_in (i0 + 4) N) (h5 : vp_in (i0 + 5) N) (hb : C + 18 ≤ 616682 ∧ S + 90 ≤ 7252203) (kk : ∀ (n' : Nat) (ad' : Nat → Nat) (ids' : List Nat) (σ' υ' : HS), LI D cA ad' ids' adm n' σ' υ' → V p l e room_1 s m #[Value.ref b] below meth c 4 A (D, cA, ad', ids', wl (D, cA, adm, idM, []) mY υ') xY (C + 18) (S + 90) Q σ' 1176 [(0, .ref b), (1, .ref (ad' 0)), (2, .ref (adm 0)), (3, .int i0)] []) : V p l e room_1 s m #[Value.ref b] below meth c 4 A (D, cA, ad, ids, wl (D, cA, adm, idM, []) mY υ) xY C S Q σ 334 [(0, .ref b), (1, .ref (ad 0)), (2, .ref (adm 0)), (3, .int i0)] [] := by
  obtain ⟨hR, hids, hwm⟩ := hI
  have hG : GX (D, cA, ad, ids, wl (D, cA, adm, idM, []) mY υ) xY := GX_xS (RelE_8 hR).1 hids
  have hO : Ob (D, cA, ad, ids, wl (D, cA, adm, idM, []) mY υ) xY 0 7 := ⟨(hids 0).mpr (Or.inl (by decide)), rfl⟩
  obtain ⟨r, σ', υ', e1, e2, hR'⟩ := Op_rings (xs (i0 + 1).toNatClampNeg) hR
  refine v_aload_n hCx dL_law_334 1 rfl ?_
  refine v_aload_n hCx dL_law_335 0 rfl ?_
  refine v_iload_n hCx dL_law_336 3 rfl ?_
  refine v_iconst (v := 1) hCx dL_law_337 (by decide) ?_
  refine v_iadd hCx dL_law_338 ?_
  refine v_sld hCx hX hbl hbA h1 dL_law_339 ?_
  refine v_callVI (G := (D, cA, ad, ids, wl (D, cA, adm, idM, []) mY υ)) hCx xE_ok (n := 1) (As := [.int (xs (i0 + 1).toNatClampNeg)]) (k_X8_rings l hG hO e1) (cwV 1 hCx.1.2.2.2.2 gL_law_X8_rings rfl rfl rfl (by decide +kernel) ⟨(Nat.le_of_ble_eq_true rfl), (Nat.le_of_ble_eq_true rfl)⟩) hO (by decide) rfl rfl rfl (Nat.le_of_ble_eq_true rfl) ⟨by show C ≤ 616682; omega, by show S ≤ 7252203; omega⟩ dL_law_340 rfl ?_
  refine v_wt (fun hwx => ?_)
  refine V.swap hwm ?_
  refine v_aload_n hCm dL_law_343 2 rfl ?_
  refine v_aload_n hCm dL_law_344 0 rfl ?_
  refine v_iload_n hCm dL_law_345 3 rfl ?_
  refine v_iconst (v := 1) hCm dL_law_346 (by decide) ?_
  refine v_iadd hCm dL_law_347 ?_
  refine v_sld hCm hX hbl hbA h1 dL_law_348 ?_
  have hGm : GX (D, cA, adm, idM, wl (D, cA, ad, ids, []) xY σ') mY := GX_idM rfl
  have hOm : Ob (D, cA, adm, idM, wl (D, cA, ad, ids, []) xY σ') mY 0 8 := ⟨(by decide : 0 ∈ idM), rfl⟩
  refine v_callVI (G := (D, cA, adm, idM, wl (D, cA, ad, ids, []) xY σ')) hCm mE_ok (n := 1) (As := [.int (xs (i0 + 1).toNatClampNeg)]) (k_X9_rings l hGm hOm e2) (cwV 1 hCm.1.2.2.2.2 gL_law_X9_rings rfl rfl rfl (by decide +kernel) ⟨(Nat.le_of_ble_eq_true rfl), (Nat.le_of_ble_eq_true rfl)⟩) hOm (by decide) rfl rfl rfl (Nat.le_of_ble_eq_true rfl) ⟨by show C ≤ 616682; omega, by show S ≤ 7252203; omega⟩ dL_law_349 rfl ?_
  refine v_wt (fun hwm2 => ?_)
  refine V.swap (wt_ex hwx) ?_
  refine v_icmp_eq (tgt := 1176) hCx dL_law_352 (by decide) (fun _ => ?_) (fun h => absurd rfl h)
  exact V.widen (by omega) (by omega) (kk n0 ad ids σ' υ' ⟨hR', hids, wt_ex hwm2⟩)
set_option maxHeartbeats 4000000 in
set_option maxRecDepth 100000 in
theorem lw_case7 {adK adV : Nat → Nat} {tb : Nat} {p : Program} {l : Launch} {e : Env} {s : State} {m : MethodId} {below : List Frame} {meth : Method} {c : Code} {A : Nat → Prop} {D : va_G} {cA : Nat → ClassId} {ad adm : Nat → Nat} {ids : List Nat} {b N n0 C S : Nat} {xs : Nat → Int32} {σ υ : HS} {Q : State → Prop} {i0 : Int32} (hX : va_X b N xs s s.heap) (hbl : b < s.heap.size) (hbA : ¬ A b) (hCx : Cx (xE adK adV tb) D cA xY code 4 ret RL wsL_law p s m #[Value.ref b] meth c A) (hCm : Cx mE D cA mY code 4 ret RL wsL_law p s m #[Value.ref b] meth c A) (hI : LI D cA ad ids adm n0 σ υ) (h1 : vp_in (i0 + 1) N) (h2 : vp_in (i0 + 2) N) (h3 : vp_in (i0 + 3) N) (h4 : vp_in (i0 + 4) N) (h5 : vp_in (i0 + 5) N) (hb : C + 18 ≤ 616682 ∧ S + 90 ≤ 7252203) (kk : ∀ (n' : Nat) (ad' : Nat → Nat) (ids' : List Nat) (σ' υ' : HS), LI D cA ad' ids' adm n' σ' υ' → V p l e room_1 s m #[Value.ref b] below meth c 4 A (D, cA, ad', ids', wl (D, cA, adm, idM, []) mY υ') xY (C + 18) (S + 90) Q σ' 1176 [(0, .ref b), (1, .ref (ad' 0)), (2, .ref (adm 0)), (3, .int i0)] []) : V p l e room_1 s m #[Value.ref b] below meth c 4 A (D, cA, ad, ids, wl (D, cA, adm, idM, []) mY υ) xY C S Q σ 357 [(0, .ref b), (1, .ref (ad 0)), (2, .ref (adm 0)), (3, .int i0)] [] := by
  obtain ⟨hR, hids, hwm⟩ := hI
  have hG : GX (D, cA, ad, ids, wl (D, cA, adm, idM, []) mY υ) xY := GX_xS (RelE_8 hR).1 hids
  have hO : Ob (D, cA, ad, ids, wl (D, cA, adm, idM, []) mY υ) xY 0 7 := ⟨(hids 0).mpr (Or.inl (by decide)), rfl⟩
  obtain ⟨r, σ', υ', e1, e2, hR'⟩ := Op_feed (xs (i0 + 1).toNatClampNeg) (((xs (i0 + 2).toNatClampNeg).toInt64 <<< ((32 : Int32).toInt64 &&& 63)) ||| ((xs (i0 + 3).toNatClampNeg).toInt64 &&& 4294967295)) hR
  refine v_aload_n hCx dL_law_357 1 rfl ?_
  refine v_aload_n hCx dL_law_358 0 rfl ?_
  refine v_iload_n hCx dL_law_359 3 rfl ?_
  refine v_iconst (v := 1) hCx dL_law_360 (by decide) ?_
  refine v_iadd hCx dL_law_361 ?_
  refine v_sld hCx hX hbl hbA h1 dL_law_362 ?_
  refine v_aload_n hCx dL_law_363 0 rfl ?_
  refine v_iload_n hCx dL_law_364 3 rfl ?_
  refine v_iconst (v := 2) hCx dL_law_365 (by decide) ?_
  refine v_iadd hCx dL_law_366 ?_
  refine v_sld hCx hX hbl hbA h2 dL_law_367 ?_
  refine v_i2l hCx dL_law_368 ?_
  refine v_bipush (v := 32) hCx dL_law_369 (by decide) ?_
  refine v_lshl hCx dL_law_371 ?_
  refine v_aload_n hCx dL_law_372 0 rfl ?_
  refine v_iload_n hCx dL_law_373 3 rfl ?_
  refine v_iconst (v := 3) hCx dL_law_374 (by decide) ?_
  refine v_iadd hCx dL_law_375 ?_
  refine v_sld hCx hX hbl hbA h3 dL_law_376 ?_
  refine v_i2l hCx dL_law_377 ?_
  refine v_ldc2 (v := 4294967295) hCx lc43_law dL_law_378 ?_
  refine v_land hCx dL_law_381 ?_
  refine v_lor hCx dL_law_382 ?_
  refine v_callVI (G := (D, cA, ad, ids, wl (D, cA, adm, idM, []) mY υ)) hCx xE_ok (n := 2) (As := [.int (xs (i0 + 1).toNatClampNeg), .long (((xs (i0 + 2).toNatClampNeg).toInt64 <<< ((32 : Int32).toInt64 &&& 63)) ||| ((xs (i0 + 3).toNatClampNeg).toInt64 &&& 4294967295))]) (k_X8_feed l hG hO e1) (cwV 2 hCx.1.2.2.2.2 gL_law_X8_feed rfl rfl rfl (by decide +kernel) ⟨(Nat.le_of_ble_eq_true rfl), (Nat.le_of_ble_eq_true rfl)⟩) hO (by decide) rfl rfl rfl (Nat.le_of_ble_eq_true rfl) ⟨by show C ≤ 616682; omega, by show S ≤ 7252203; omega⟩ dL_law_383 rfl ?_
  refine v_wt (fun hwx => ?_)
  refine V.swap hwm ?_
  refine v_aload_n hCm dL_law_386 2 rfl ?_
  refine v_aload_n hCm dL_law_387 0 rfl ?_
  refine v_iload_n hCm dL_law_388 3 rfl ?_
  refine v_iconst (v := 1) hCm dL_law_389 (by decide) ?_
  refine v_iadd hCm dL_law_390 ?_
  refine v_sld hCm hX hbl hbA h1 dL_law_391 ?_
  refine v_aload_n hCm dL_law_392 0 rfl ?_
  refine v_iload_n hCm dL_law_393 3 rfl ?_
  refine v_iconst (v := 2) hCm dL_law_394 (by decide) ?_
  refine v_iadd hCm dL_law_395 ?_
  refine v_sld hCm hX hbl hbA h2 dL_law_396 ?_
  refine v_i2l hCm dL_law_397 ?_
  refine v_bipush (v := 32) hCm dL_law_398 (by decide) ?_
  refine v_lshl hCm dL_law_400 ?_
  refine v_aload_n hCm dL_law_401 0 rfl ?_
  refine v_iload_n hCm dL_law_402 3 rfl ?_
  refine v_iconst (v := 3) hCm dL_law_403 (by decide) ?_
  refine v_iadd hCm dL_law_404 ?_
  refine v_sld hCm hX hbl hbA h3 dL_law_405 ?_
  refine v_i2l hCm dL_law_406 ?_
  refine v_ldc2 (v := 4294967295) hCm lc43_law dL_law_407 ?_
  refine v_land hCm dL_law_410 ?_
  refine v_lor hCm dL_law_411 ?_
  have hGm : GX (D, cA, adm, idM, wl (D, cA, ad, ids, []) xY σ') mY := GX_idM rfl
  have hOm : Ob (D, cA, adm, idM, wl (D, cA, ad, ids, []) xY σ') mY 0 8 := ⟨(by decide : 0 ∈ idM), rfl⟩
  refine v_callVI (G := (D, cA, adm, idM, wl (D, cA, ad, ids, []) xY σ')) hCm mE_ok (n := 2) (As := [.int (xs (i0 + 1).toNatClampNeg), .long (((xs (i0 + 2).toNatClampNeg).toInt64 <<< ((32 : Int32).toInt64 &&& 63)) ||| ((xs (i0 + 3).toNatClampNeg).toInt64 &&& 4294967295))]) (k_X9_feed l hGm hOm e2) (cwV 2 hCm.1.2.2.2.2 gL_law_X9_feed rfl rfl rfl (by decide +kernel) ⟨(Nat.le_of_ble_eq_true rfl), (Nat.le_of_ble_eq_true rfl)⟩) hOm (by decide) rfl rfl rfl (Nat.le_of_ble_eq_true rfl) ⟨by show C ≤ 616682; omega, by show S ≤ 7252203; omega⟩ dL_law_412 rfl ?_
  refine v_wt (fun hwm2 => ?_)
  refine V.swap (wt_ex hwx) ?_
  refine v_icmp_eq (tgt := 1176) hCx dL_law_415 (by decide) (fun _ => ?_) (fun h => absurd rfl h)
  exact V.widen (by omega) (by omega) (kk n0 ad ids σ' υ' ⟨hR', hids, wt_ex hwm2⟩)
