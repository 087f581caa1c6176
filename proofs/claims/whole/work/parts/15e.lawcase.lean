/-! THE LAW: its calls -/
set_option maxHeartbeats 4000000 in
set_option maxRecDepth 100000 in
theorem lw_case24 {adK adV : Nat → Nat} {tb : Nat} {p : Program} {l : Launch} {e : Env} {s : State} {m : MethodId} {below : List Frame} {meth : Method} {c : Code} {A : Nat → Prop} {D : va_G} {cA : Nat → ClassId} {ad adm : Nat → Nat} {ids : List Nat} {b N n0 C S : Nat} {xs : Nat → Int32} {σ υ : HS} {Q : State → Prop} {i0 : Int32} (hX : va_X b N xs s s.heap) (hbl : b < s.heap.size) (hbA : ¬ A b) (hCx : Cx (xE adK adV tb) D cA xY code 4 ret RL wsL_law p s m #[Value.ref b] meth c A) (hCm : Cx mE D cA mY code 4 ret RL wsL_law p s m #[Value.ref b] meth c A) (hI : LI D cA ad ids adm n0 σ υ) (h1 : vp_in (i0 + 1) N) (h2 : vp_in (i0 + 2) N) (h3 : vp_in (i0 + 3) N) (h4 : vp_in (i0 + 4) N) (h5 : vp_in (i0 + 5) N) (hb : C + 18 ≤ 616682 ∧ S + 90 ≤ 7252203) (kk : ∀ (n' : Nat) (ad' : Nat → Nat) (ids' : List Nat) (σ' υ' : HS), LI D cA ad' ids' adm n' σ' υ' → V p l e room_1 s m #[Value.ref b] below meth c 4 A (D, cA, ad', ids', wl (D, cA, adm, idM, []) mY υ') xY (C + 18) (S + 90) Q σ' 1176 [(0, .ref b), (1, .ref (ad' 0)), (2, .ref (adm 0)), (3, .int i0)] []) : V p l e room_1 s m #[Value.ref b] below meth c 4 A (D, cA, ad, ids, wl (D, cA, adm, idM, []) mY υ) xY C S Q σ 892 [(0, .ref b), (1, .ref (ad 0)), (2, .ref (adm 0)), (3, .int i0)] [] := by
  obtain ⟨hR, hids, hwm⟩ := hI
  have hG : GX (D, cA, ad, ids, wl (D, cA, adm, idM, []) mY υ) xY := GX_xS (RelE_8 hR).1 hids
  have hO : Ob (D, cA, ad, ids, wl (D, cA, adm, idM, []) mY υ) xY 0 7 := ⟨(hids 0).mpr (Or.inl (by decide)), rfl⟩
  obtain ⟨r, σ', υ', e1, e2, hR'⟩ := Op_image hR
  refine v_aload_n hCx dL_law_892 1 rfl ?_
  refine v_callVI (G := (D, cA, ad, ids, wl (D, cA, adm, idM, []) mY υ)) hCx xE_ok (n := 0) (As := []) (k_X8_image l hG hO e1) (cwV 0 hCx.1.2.2.2.2 gL_law_X8_image rfl rfl rfl (by decide +kernel) ⟨(Nat.le_of_ble_eq_true rfl), (Nat.le_of_ble_eq_true rfl)⟩) hO (by decide) rfl rfl rfl (Nat.le_of_ble_eq_true rfl) ⟨by show C ≤ 616682; omega, by show S ≤ 7252203; omega⟩ dL_law_893 rfl ?_
  refine v_wt (fun hwx => ?_)
  refine V.swap hwm ?_
  refine v_aload_n hCm dL_law_896 2 rfl ?_
  have hGm : GX (D, cA, adm, idM, wl (D, cA, ad, ids, []) xY σ') mY := GX_idM rfl
  have hOm : Ob (D, cA, adm, idM, wl (D, cA, ad, ids, []) xY σ') mY 0 8 := ⟨(by decide : 0 ∈ idM), rfl⟩
  refine v_callVI (G := (D, cA, adm, idM, wl (D, cA, ad, ids, []) xY σ')) hCm mE_ok (n := 0) (As := []) (k_X9_image l hGm hOm e2) (cwV 0 hCm.1.2.2.2.2 gL_law_X9_image rfl rfl rfl (by decide +kernel) ⟨(Nat.le_of_ble_eq_true rfl), (Nat.le_of_ble_eq_true rfl)⟩) hOm (by decide) rfl rfl rfl (Nat.le_of_ble_eq_true rfl) ⟨by show C ≤ 616682; omega, by show S ≤ 7252203; omega⟩ dL_law_897 rfl ?_
  refine v_wt (fun hwm2 => ?_)
  refine V.swap (wt_ex hwx) ?_
  refine v_icmp_eq (tgt := 1176) hCx dL_law_900 (by decide) (fun _ => ?_) (fun h => absurd rfl h)
  exact V.widen (by omega) (by omega) (kk n0 ad ids σ' υ' ⟨hR', hids, wt_ex hwm2⟩)
set_option maxHeartbeats 4000000 in
set_option maxRecDepth 100000 in
theorem lw_case25 {adK adV : Nat → Nat} {tb : Nat} {p : Program} {l : Launch} {e : Env} {s : State} {m : MethodId} {below : List Frame} {meth : Method} {c : Code} {A : Nat → Prop} {D : va_G} {cA : Nat → ClassId} {ad adm : Nat → Nat} {ids : List Nat} {b N n0 C S : Nat} {xs : Nat → Int32} {σ υ : HS} {Q : State → Prop} {i0 : Int32} (hX : va_X b N xs s s.heap) (hbl : b < s.heap.size) (hbA : ¬ A b) (hCx : Cx (xE adK adV tb) D cA xY code 4 ret RL wsL_law p s m #[Value.ref b] meth c A) (hCm : Cx mE D cA mY code 4 ret RL wsL_law p s m #[Value.ref b] meth c A) (hI : LI D cA ad ids adm n0 σ υ) (h1 : vp_in (i0 + 1) N) (h2 : vp_in (i0 + 2) N) (h3 : vp_in (i0 + 3) N) (h4 : vp_in (i0 + 4) N) (h5 : vp_in (i0 + 5) N) (hb : C + 18 ≤ 616682 ∧ S + 90 ≤ 7252203) (kk : ∀ (n' : Nat) (ad' : Nat → Nat) (ids' : List Nat) (σ' υ' : HS), LI D cA ad' ids' adm n' σ' υ' → V p l e room_1 s m #[Value.ref b] below meth c 4 A (D, cA, ad', ids', wl (D, cA, adm, idM, []) mY υ') xY (C + 18) (S + 90) Q σ' 1176 [(0, .ref b), (1, .ref (ad' 0)), (2, .ref (adm 0)), (3, .int i0)] []) : V p l e room_1 s m #[Value.ref b] below meth c 4 A (D, cA, ad, ids, wl (D, cA, adm, idM, []) mY υ) xY C S Q σ 905 [(0, .ref b), (1, .ref (ad 0)), (2, .ref (adm 0)), (3, .int i0)] [] := by
  obtain ⟨hR, hids, hwm⟩ := hI
  have hG : GX (D, cA, ad, ids, wl (D, cA, adm, idM, []) mY υ) xY := GX_xS (RelE_8 hR).1 hids
  have hO : Ob (D, cA, ad, ids, wl (D, cA, adm, idM, []) mY υ) xY 0 7 := ⟨(hids 0).mpr (Or.inl (by decide)), rfl⟩
  obtain ⟨r, σ', υ', e1, e2, hR'⟩ := Op_back hR
  refine v_aload_n hCx dL_law_905 1 rfl ?_
  refine v_callVI (G := (D, cA, ad, ids, wl (D, cA, adm, idM, []) mY υ)) hCx xE_ok (n := 0) (As := []) (k_X8_back l hG hO e1) (cwV 0 hCx.1.2.2.2.2 gL_law_X8_back rfl rfl rfl (by decide +kernel) ⟨(Nat.le_of_ble_eq_true rfl), (Nat.le_of_ble_eq_true rfl)⟩) hO (by decide) rfl rfl rfl (Nat.le_of_ble_eq_true rfl) ⟨by show C ≤ 616682; omega, by show S ≤ 7252203; omega⟩ dL_law_906 rfl ?_
  refine v_wt (fun hwx => ?_)
  refine V.swap hwm ?_
  refine v_aload_n hCm dL_law_909 2 rfl ?_
  have hGm : GX (D, cA, adm, idM, wl (D, cA, ad, ids, []) xY σ') mY := GX_idM rfl
  have hOm : Ob (D, cA, adm, idM, wl (D, cA, ad, ids, []) xY σ') mY 0 8 := ⟨(by decide : 0 ∈ idM), rfl⟩
  refine v_callVI (G := (D, cA, adm, idM, wl (D, cA, ad, ids, []) xY σ')) hCm mE_ok (n := 0) (As := []) (k_X9_back l hGm hOm e2) (cwV 0 hCm.1.2.2.2.2 gL_law_X9_back rfl rfl rfl (by decide +kernel) ⟨(Nat.le_of_ble_eq_true rfl), (Nat.le_of_ble_eq_true rfl)⟩) hOm (by decide) rfl rfl rfl (Nat.le_of_ble_eq_true rfl) ⟨by show C ≤ 616682; omega, by show S ≤ 7252203; omega⟩ dL_law_910 rfl ?_
  refine v_wt (fun hwm2 => ?_)
  refine V.swap (wt_ex hwx) ?_
  refine v_icmp_eq (tgt := 1176) hCx dL_law_913 (by decide) (fun _ => ?_) (fun h => absurd rfl h)
  exact V.widen (by omega) (by omega) (kk n0 ad ids σ' υ' ⟨hR', hids, wt_ex hwm2⟩)
set_option maxHeartbeats 4000000 in
set_option maxRecDepth 100000 in
theorem lw_case26 {adK adV : Nat → Nat} {tb : Nat} {p : Program} {l : Launch} {e : Env} {s : State} {m : MethodId} {below : List Frame} {meth : Method} {c : Code} {A : Nat → Prop} {D : va_G} {cA : Nat → ClassId} {ad adm : Nat → Nat} {ids : List Nat} {b N n0 C S : Nat} {xs : Nat → Int32} {σ υ : HS} {Q : State → Prop} {i0 : Int32} (hX : va_X b N xs s s.heap) (hbl : b < s.heap.size) (hbA : ¬ A b) (hCx : Cx (xE adK adV tb) D cA xY code 4 ret RL wsL_law p s m #[Value.ref b] meth c A) (hCm : Cx mE D cA mY code 4 ret RL wsL_law p s m #[Value.ref b] meth c A) (hI : LI D cA ad ids adm n0 σ υ) (h1 : vp_in (i0 + 1) N) (h2 : vp_in (i0 + 2) N) (h3 : vp_in (i0 + 3) N) (h4 : vp_in (i0 + 4) N) (h5 : vp_in (i0 + 5) N) (hb : C + 18 ≤ 616682 ∧ S + 90 ≤ 7252203) (kk : ∀ (n' : Nat) (ad' : Nat → Nat) (ids' : List Nat) (σ' υ' : HS), LI D cA ad' ids' adm n' σ' υ' → V p l e room_1 s m #[Value.ref b] below meth c 4 A (D, cA, ad', ids', wl (D, cA, adm, idM, []) mY υ') xY (C + 18) (S + 90) Q σ' 1176 [(0, .ref b), (1, .ref (ad' 0)), (2, .ref (adm 0)), (3, .int i0)] []) : V p l e room_1 s m #[Value.ref b] below meth c 4 A (D, cA, ad, ids, wl (D, cA, adm, idM, []) mY υ) xY C S Q σ 918 [(0, .ref b), (1, .ref (ad 0)), (2, .ref (adm 0)), (3, .int i0)] [] := by
  obtain ⟨hR, hids, hwm⟩ := hI
  have hG : GX (D, cA, ad, ids, wl (D, cA, adm, idM, []) mY υ) xY := GX_xS (RelE_8 hR).1 hids
  have hO : Ob (D, cA, ad, ids, wl (D, cA, adm, idM, []) mY υ) xY 0 7 := ⟨(hids 0).mpr (Or.inl (by decide)), rfl⟩
  obtain ⟨r, σ', υ', e1, e2, hR'⟩ := Op_count (xs (i0 + 1).toNatClampNeg) hR
  refine v_aload_n hCx dL_law_918 1 rfl ?_
  refine v_aload_n hCx dL_law_919 0 rfl ?_
  refine v_iload_n hCx dL_law_920 3 rfl ?_
  refine v_iconst (v := 1) hCx dL_law_921 (by decide) ?_
  refine v_iadd hCx dL_law_922 ?_
  refine v_sld hCx hX hbl hbA h1 dL_law_923 ?_
  refine v_callVI (G := (D, cA, ad, ids, wl (D, cA, adm, idM, []) mY υ)) hCx xE_ok (n := 1) (As := [.int (xs (i0 + 1).toNatClampNeg)]) (k_X8_count l hG hO e1) (cwV 1 hCx.1.2.2.2.2 gL_law_X8_count rfl rfl rfl (by decide +kernel) ⟨(Nat.le_of_ble_eq_true rfl), (Nat.le_of_ble_eq_true rfl)⟩) hO (by decide) rfl rfl rfl (Nat.le_of_ble_eq_true rfl) ⟨by show C ≤ 616682; omega, by show S ≤ 7252203; omega⟩ dL_law_924 rfl ?_
  refine v_wt (fun hwx => ?_)
  refine V.swap hwm ?_
  refine v_aload_n hCm dL_law_927 2 rfl ?_
  refine v_aload_n hCm dL_law_928 0 rfl ?_
  refine v_iload_n hCm dL_law_929 3 rfl ?_
  refine v_iconst (v := 1) hCm dL_law_930 (by decide) ?_
  refine v_iadd hCm dL_law_931 ?_
  refine v_sld hCm hX hbl hbA h1 dL_law_932 ?_
  have hGm : GX (D, cA, adm, idM, wl (D, cA, ad, ids, []) xY σ') mY := GX_idM rfl
  have hOm : Ob (D, cA, adm, idM, wl (D, cA, ad, ids, []) xY σ') mY 0 8 := ⟨(by decide : 0 ∈ idM), rfl⟩
  refine v_callVI (G := (D, cA, adm, idM, wl (D, cA, ad, ids, []) xY σ')) hCm mE_ok (n := 1) (As := [.int (xs (i0 + 1).toNatClampNeg)]) (k_X9_count l hGm hOm e2) (cwV 1 hCm.1.2.2.2.2 gL_law_X9_count rfl rfl rfl (by decide +kernel) ⟨(Nat.le_of_ble_eq_true rfl), (Nat.le_of_ble_eq_true rfl)⟩) hOm (by decide) rfl rfl rfl (Nat.le_of_ble_eq_true rfl) ⟨by show C ≤ 616682; omega, by show S ≤ 7252203; omega⟩ dL_law_933 rfl ?_
  refine v_wt (fun hwm2 => ?_)
  refine V.swap (wt_ex hwx) ?_
  refine v_icmp_eq (tgt := 1176) hCx dL_law_936 (by decide) (fun _ => ?_) (fun h => absurd rfl h)
  exact V.widen (by omega) (by omega) (kk n0 ad ids σ' υ' ⟨hR', hids, wt_ex hwm2⟩)
set_option maxHeartbeats 4000000 in
set_option maxRecDepth 100000 in
theorem lw_case27 {adK adV : Nat → Nat} {tb : Nat} {p : Program} {l : Launch} {e : Env} {s : State} {m : MethodId} {below : List Frame} {meth : Method} {c : Code} {A : Nat → Prop} {D : va_G} {cA : Nat → ClassId} {ad adm : Nat → Nat} {ids : List Nat} {b N n0 C S : Nat} {xs : Nat → Int32} {σ υ : HS} {Q : State → Prop} {i0 : Int32} (hX : va_X b N xs s s.heap) (hbl : b < s.heap.size) (hbA : ¬ A b) (hCx : Cx (xE adK adV tb) D cA xY code 4 ret RL wsL_law p s m #[Value.ref b] meth c A) (hCm : Cx mE D cA mY code 4 ret RL wsL_law p s m #[Value.ref b] meth c A) (hI : LI D cA ad ids adm n0 σ υ) (h1 : vp_in (i0 + 1) N) (h2 : vp_in (i0 + 2) N) (h3 : vp_in (i0 + 3) N) (h4 : vp_in (i0 + 4) N) (h5 : vp_in (i0 + 5) N) (hb : C + 18 ≤ 616682 ∧ S + 90 ≤ 7252203) (kk : ∀ (n' : Nat) (ad' : Nat → Nat) (ids' : List Nat) (σ' υ' : HS), LI D cA ad' ids' adm n' σ' υ' → V p l e room_1 s m #[Value.ref b] below meth c 4 A (D, cA, ad', ids', wl (D, cA, adm, idM, []) mY υ') xY (C + 18) (S + 90) Q σ' 1176 [(0, .ref b), (1, .ref (ad' 0)), (2, .ref (adm 0)), (3, .int i0)] []) : V p l e room_1 s m #[Value.ref b] below meth c 4 A (D, cA, ad, ids, wl (D, cA, adm, idM, []) mY υ) xY C S Q σ 941 [(0, .ref b), (1, .ref (ad 0)), (2, .ref (adm 0)), (3, .int i0)] [] := by
  obtain ⟨hR, hids, hwm⟩ := hI
  have hG : GX (D, cA, ad, ids, wl (D, cA, adm, idM, []) mY υ) xY := GX_xS (RelE_8 hR).1 hids
  have hO : Ob (D, cA, ad, ids, wl (D, cA, adm, idM, []) mY υ) xY 0 7 := ⟨(hids 0).mpr (Or.inl (by decide)), rfl⟩
  obtain ⟨r, σ', υ', e1, e2, hR'⟩ := Op_sheet (xs (i0 + 1).toNatClampNeg) (xs (i0 + 2).toNatClampNeg) (xs (i0 + 3).toNatClampNeg) hR
  refine v_aload_n hCx dL_law_941 1 rfl ?_
  refine v_aload_n hCx dL_law_942 0 rfl ?_
  refine v_iload_n hCx dL_law_943 3 rfl ?_
  refine v_iconst (v := 1) hCx dL_law_944 (by decide) ?_
  refine v_iadd hCx dL_law_945 ?_
  refine v_sld hCx hX hbl hbA h1 dL_law_946 ?_
  refine v_aload_n hCx dL_law_947 0 rfl ?_
  refine v_iload_n hCx dL_law_948 3 rfl ?_
  refine v_iconst (v := 2) hCx dL_law_949 (by decide) ?_
  refine v_iadd hCx dL_law_950 ?_
  refine v_sld hCx hX hbl hbA h2 dL_law_951 ?_
  refine v_aload_n hCx dL_law_952 0 rfl ?_
  refine v_iload_n hCx dL_law_953 3 rfl ?_
  refine v_iconst (v := 3) hCx dL_law_954 (by decide) ?_
  refine v_iadd hCx dL_law_955 ?_
  refine v_sld hCx hX hbl hbA h3 dL_law_956 ?_
  refine v_callVI (G := (D, cA, ad, ids, wl (D, cA, adm, idM, []) mY υ)) hCx xE_ok (n := 3) (As := [.int (xs (i0 + 1).toNatClampNeg), .int (xs (i0 + 2).toNatClampNeg), .int (xs (i0 + 3).toNatClampNeg)]) (k_X8_sheet l hG hO e1) (cwV 3 hCx.1.2.2.2.2 gL_law_X8_sheet rfl rfl rfl (by decide +kernel) ⟨(Nat.le_of_ble_eq_true rfl), (Nat.le_of_ble_eq_true rfl)⟩) hO (by decide) rfl rfl rfl (Nat.le_of_ble_eq_true rfl) ⟨by show C ≤ 616682; omega, by show S ≤ 7252203; omega⟩ dL_law_957 rfl ?_
  refine v_wt (fun hwx => ?_)
  refine V.swap hwm ?_
  refine v_aload_n hCm dL_law_960 2 rfl ?_
  refine v_aload_n hCm dL_law_961 0 rfl ?_
  refine v_iload_n hCm dL_law_962 3 rfl ?_
  refine v_iconst (v := 1) hCm dL_law_963 (by decide) ?_
  refine v_iadd hCm dL_law_964 ?_
  refine v_sld hCm hX hbl hbA h1 dL_law_965 ?_
  refine v_aload_n hCm dL_law_966 0 rfl ?_
  refine v_iload_n hCm dL_law_967 3 rfl ?_
  refine v_iconst (v := 2) hCm dL_law_968 (by decide) ?_
  refine v_iadd hCm dL_law_969 ?_
  refine v_sld hCm hX hbl hbA h2 dL_law_970 ?_
  refine v_aload_n hCm dL_law_971 0 rfl ?_
  refine v_iload_n hCm dL_law_972 3 rfl ?_
  refine v_iconst (v := 3) hCm dL_law_973 (by decide) ?_
  refine v_iadd hCm dL_law_974 ?_
  refine v_sld hCm hX hbl hbA h3 dL_law_975 ?_
  have hGm : GX (D, cA, adm, idM, wl (D, cA, ad, ids, []) xY σ') mY := GX_idM rfl
  have hOm : Ob (D, cA, adm, idM, wl (D, cA, ad, ids, []) xY σ') mY 0 8 := ⟨(by decide : 0 ∈ idM), rfl⟩
  refine v_callVI (G := (D, cA, adm, idM, wl (D, cA, ad, ids, []) xY σ')) hCm mE_ok (n := 3) (As := [.int (xs (i0 + 1).toNatClampNeg), .int (xs (i0 + 2).toNatClampNeg), .int (xs (i0 + 3).toNatClampNeg)]) (k_X9_sheet l hGm hOm e2) (cwV 3 hCm.1.2.2.2.2 gL_law_X9_sheet rfl rfl rfl (by decide +kernel) ⟨(Nat.le_of_ble_eq_true rfl), (Nat.le_of_ble_eq_true rfl)⟩) hOm (by decide) rfl rfl rfl (Nat.le_of_ble_eq_true rfl) ⟨by show C ≤ 616682; omega, by show S ≤ 7252203; omega⟩ dL_law_976 rfl ?_
  refine v_wt (fun hwm2 => ?_)
  refine V.swap (wt_ex hwx) ?_
  refine v_icmp_eq (tgt := 1176) hCx dL_law_979 (by decide) (fun _ => ?_) (fun h => absurd rfl h)
  exact V.widen (by omega) (by omega) (kk n0 ad ids σ' υ' ⟨hR', hids, wt_ex hwm2⟩)
set_option maxHeartbeats 4000000 in
set_option maxRecDepth 100000 in
theorem lw_case28 {adK adV : Nat → Nat} {tb : Nat} {p : Program} {l : Launch} {e : Env} {s : State} {m : MethodId} {below : List Frame} {meth : Method} {c : Code} {A : Nat → Prop} {D : va_G} {cA : Nat → ClassId} {ad adm : Nat → Nat} {ids : List Nat} {b N n0 C S : Nat} {xs : Nat → Int32} {σ υ : HS} {Q : State → Prop} {i0 : Int32} (hX : va_X b N xs s s.heap) (hbl : b < s.heap.size) (hbA : ¬ A b) (hCx : Cx (xE adK adV tb) D cA xY code 4 ret RL wsL_law p s m #[Value.ref b] meth c A) (hCm : Cx mE D cA mY code 4 ret RL wsL_law p s m #[Value.ref b] meth c A) (hI : LI D cA ad ids adm n0 σ υ) (h1 : vp_in (i0 + 1) N) (h2 : vp_in (i0 + 2) N) (h3 : vp_in (i0 + 3) N) (h4 : vp_in (i0 + 4) N) (h5 : vp_in (i0 + 5) N) (hb : C + 18 ≤ 616682 ∧ S + 90 ≤ 7252203) (kk : ∀ (n' : Nat) (ad' : Nat → Nat) (ids' : List Nat) (σ' υ' : HS), LI D cA ad' ids' adm n' σ' υ' → V p l e room_1 s m #[Value.ref b] below meth c 4 A (D, cA, ad', ids', wl (D, cA, adm, idM, []) mY υ') xY (C + 18) (S + 90) Q σ' 1176 [(0, .ref b), (1, .ref (ad' 0)), (2, .ref (adm 0)), (3, .int i0)] []) : V p l e room_1 s m #[Value.ref b] below meth c 4 A (D, cA, ad, ids, wl (D, cA, adm, idM, []) mY υ) xY C S Q σ 984 [(0, .ref b), (1, .ref (ad 0)), (2, .ref (adm 0)), (3, .int i0)] [] := by
  obtain ⟨hR, hids, hwm⟩ := hI
  have hG : GX (D, cA, ad, ids, wl (D, cA, adm, idM, []) mY υ) xY := GX_xS (RelE_8 hR).1 hids
  have hO : Ob (D, cA, ad, ids, wl (D, cA, adm, idM, []) mY υ) xY 0 7 := ⟨(hids 0).mpr (Or.inl (by decide)), rfl⟩
  obtain ⟨r, σ', υ', e1, e2, hR'⟩ := Op_cell (xs (i0 + 1).toNatClampNeg) (xs (i0 + 2).toNatClampNeg) (xs (i0 + 3).toNatClampNeg) hR
  refine v_aload_n hCx dL_law_984 1 rfl ?_
  refine v_aload_n hCx dL_law_985 0 rfl ?_
  refine v_iload_n hCx dL_law_986 3 rfl ?_
  refine v_iconst (v := 1) hCx dL_law_987 (by decide) ?_
  refine v_iadd hCx dL_law_988 ?_
  refine v_sld hCx hX hbl hbA h1 dL_law_989 ?_
  refine v_aload_n hCx dL_law_990 0 rfl ?_
  refine v_iload_n hCx dL_law_991 3 rfl ?_
  refine v_iconst (v := 2) hCx dL_law_992 (by decide) ?_
  refine v_iadd hCx dL_law_993 ?_
  refine v_sld hCx hX hbl hbA h2 dL_law_994 ?_
  refine v_aload_n hCx dL_law_995 0 rfl ?_
  refine v_iload_n hCx dL_law_996 3 rfl ?_
  refine v_iconst (v := 3) hCx dL_law_997 (by decide) ?_
  refine v_iadd hCx dL_law_998 ?_
  refine v_sld hCx hX hbl hbA h3 dL_law_999 ?_
  refine v_callVI (G := (D, cA, ad, ids, wl (D, cA, adm, idM, []) mY υ)) hCx xE_ok (n := 3) (As := [.int (xs (i0 + 1).toNatClampNeg), .int (xs (i0 + 2).toNatClampNeg), .int (xs (i0 + 3).toNatClampNeg)]) (k_X8_cell l hG hO e1) (cwV 3 hCx.1.2.2.2.2 gL_law_X8_cell rfl rfl rfl (by decide +kernel) ⟨(Nat.le_of_ble_eq_true rfl), (Nat.le_of_ble_eq_true rfl)⟩) hO (by decide) rfl rfl rfl (Nat.le_of_ble_eq_true rfl) ⟨by show C ≤ 616682; omega, by show S ≤ 7252203; omega⟩ dL_law_1000 rfl ?_
  refine v_wt (fun hwx => ?_)
  refine V.swap hwm ?_
  refine v_aload_n hCm dL_law_1003 2 rfl ?_
  refine v_aload_n hCm dL_law_1004 0 rfl ?_
  refine v_iload_n hCm dL_law_1005 3 rfl ?_
  refine v_iconst (v := 1) hCm dL_law_1006 (by decide) ?_
  refine v_iadd hCm dL_law_1007 ?_
  refine v_sld hCm hX hbl hbA h1 dL_law_1008 ?_
  refine v_aload_n hCm dL_law_1009 0 rfl ?_
  refine v_iload_n hCm dL_law_1010 3 rfl ?_
  refine v_iconst (v := 2) hCm dL_law_1011 (by decide) ?_
  refine v_iadd hCm dL_law_1012 ?_
  refine v_sld hCm hX hbl hbA h2 dL_law_1013 ?_
  refine v_aload_n hCm dL_law_1014 0 rfl ?_
  refine v_iload_n hCm dL_law_1015 3 rfl ?_
  refine v_iconst (v := 3) hCm dL_law_1016 (by decide) ?_
  refine v_iadd hCm dL_law_1017 ?_
  refine v_sld hCm hX hbl hbA h3 dL_law_1018 ?_
  have hGm : GX (D, cA, adm, idM, wl (D, cA, ad, ids, []) xY σ') mY := GX_idM rfl
  have hOm : Ob (D, cA, adm, idM, wl (D, cA, ad, ids, []) xY σ') mY 0 8 := ⟨(by decide : 0 ∈ idM), rfl⟩
  refine v_callVI (G := (D, cA, adm, idM, wl (D, cA, ad, ids, []) xY σ')) hCm mE_ok (n := 3) (As := [.int (xs (i0 + 1).toNatClampNeg), .int (xs (i0 + 2).toNatClampNeg), .int (xs (i0 + 3).toNatClampNeg)]) (k_X9_cell l hGm hOm e2) (cwV 3 hCm.1.2.2.2.2 gL_law_X9_cell rfl rfl rfl (by decide +kernel) ⟨(Nat.le_of_ble_eq_true rfl), (Nat.le_of_ble_eq_true rfl)⟩) hOm (by decide) rfl rfl rfl (Nat.le_of_ble_eq_true rfl) ⟨by show C ≤ 616682; omega, by show S ≤ 7252203; omega⟩ dL_law_1019 rfl ?_
  refine v_wt (fun hwm2 => ?_)
  refine V.swap (wt_ex hwx) ?_
  refine v_icmp_eq (tgt := 1176) hCx dL_law_1022 (by decide) (fun _ => ?_) (fun h => absurd rfl h)
  exact V.widen (by omega) (by omega) (kk n0 ad ids σ' υ' ⟨hR', hids, wt_ex hwm2⟩)
set_option maxHeartbeats 4000000 in
set_option maxRecDepth 100000 in
theorem lw_case29 {adK adV : Nat → Nat} {tb : Nat} {p : Program} {l : Launch} {e : Env} {s : State} {m : MethodId} {below : List Frame} {meth : Method} {c : Code} {A : Nat → Prop} {D : va_G} {cA : Nat → ClassId} {ad adm : Nat → Nat} {ids : List Nat} {b N n0 C S : Nat} {xs : Nat → Int32} {σ υ : HS} {Q : State → Prop} {i0 : Int32} (hX : va_X b N xs s s.heap) (hbl : b < s.heap.size) (hbA : ¬ A b) (hCx : Cx (xE adK adV tb) D cA xY code 4 ret RL wsL_law p s m #[Value.ref b] meth c A) (hCm : Cx mE D cA mY code 4 ret RL wsL_law p s m #[Value.ref b] meth c A) (hI : LI D cA ad ids adm n0 σ υ) (h1 : vp_in (i0 + 1) N) (h2 : vp_in (i0 + 2) N) (h3 : vp_in (i0 + 3) N) (h4 : vp_in (i0 + 4) N) (h5 : vp_in (i0 + 5) N) (hb : C + 18 ≤ 616682 ∧ S + 90 ≤ 7252203) (kk : ∀ (n' : Nat) (ad' : Nat → Nat) (ids' : List Nat) (σ' υ' : HS), LI D cA ad' ids' adm n' σ' υ' → V p l e room_1 s m #[Value.ref b] below meth c 4 A (D, cA, ad', ids', wl (D, cA, adm, idM, []) mY υ') xY (C + 18) (S + 90) Q σ' 1176 [(0, .ref b), (1, .ref (ad' 0)), (2, .ref (adm 0)), (3, .int i0)] []) : V p l e room_1 s m #[Value.ref b] below meth c 4 A (D, cA, ad, ids, wl (D, cA, adm, idM, []) mY υ) xY C S Q σ 1027 [(0, .ref b), (1, .ref (ad 0)), (2, .ref (adm 0)), (3, .int i0)] [] := by
  obtain ⟨hR, hids, hwm⟩ := hI
  have hG : GX (D, cA, ad, ids, wl (D, cA, adm, idM, []) mY υ) xY := GX_xS (RelE_8 hR).1 hids
  have hO : Ob (D, cA, ad, ids, wl (D, cA, adm, idM, []) mY υ) xY 0 7 := ⟨(hids 0).mpr (Or.inl (by decide)), rfl⟩
  obtain ⟨r, σ', υ', e1, e2, hR'⟩ := Op_copy (xs (i0 + 1).toNatClampNeg) (xs (i0 + 2).toNatClampNeg) (xs (i0 + 3).toNatClampNeg) (xs (i0 + 4).toNatClampNeg) (xs (i0 + 5).toNatClampNeg) hR
  refine v_aload_n hCx dL_law_1027 1 rfl ?_
  refine v_aload_n hCx dL_law_1028 0 rfl ?_
  refine v_iload_n hCx dL_law_1029 3 rfl ?_
  refine v_iconst (v := 1) hCx dL_law_1030 (by decide) ?_
  refine v_iadd hCx dL_law_1031 ?_
  refine v_sld hCx hX hbl hbA h1 dL_law_1032 ?_
  refine v_aload_n hCx dL_law_1033 0 rfl ?_
  refine v_iload_n hCx dL_law_1034 3 rfl ?_
  refine v_iconst (v := 2) hCx dL_law_1035 (by decide) ?_
  refine v_iadd hCx dL_law_1036 ?_
  refine v_sld hCx hX hbl hbA h2 dL_law_1037 ?_
  refine v_aload_n hCx dL_law_1038 0 rfl ?_
  refine v_iload_n hCx dL_law_1039 3 rfl ?_
  refine v_iconst (v := 3) hCx dL_law_1040 (by decide) ?_
  refine v_iadd hCx dL_law_1041 ?_
  refine v_sld hCx hX hbl hbA h3 dL_law_1042 ?_
  refine v_aload_n hCx dL_law_1043 0 rfl ?_
  refine v_iload_n hCx dL_law_1044 3 rfl ?_
  refine v_iconst (v := 4) hCx dL_law_1045 (by decide) ?_
  refine v_iadd hCx dL_law_1046 ?_
  refine v_sld hCx hX hbl hbA h4 dL_law_1047 ?_
  refine v_aload_n hCx dL_law_1048 0 rfl ?_
  refine v_iload_n hCx dL_law_1049 3 rfl ?_
  refine v_iconst (v := 5) hCx dL_law_1050 (by decide) ?_
  refine v_iadd hCx dL_law_1051 ?_
  refine v_sld hCx hX hbl hbA h5 dL_law_1052 ?_
  refine v_callVI (G := (D, cA, ad, ids, wl (D, cA, adm, idM, []) mY υ)) hCx xE_ok (n := 5) (As := [.int (xs (i0 + 1).toNatClampNeg), .int (xs (i0 + 2).toNatClampNeg), .int (xs (i0 + 3).toNatClampNeg), .int (xs (i0 + 4).toNatClampNeg), .int (xs (i0 + 5).toNatClampNeg)]) (k_X8_copy l hG hO e1) (cwV 5 hCx.1.2.2.2.2 gL_law_X8_copy rfl rfl rfl (by decide +kernel) ⟨(Nat.le_of_ble_eq_true rfl), (Nat.le_of_ble_eq_true rfl)⟩) hO (by decide) rfl rfl rfl (Nat.le_of_ble_eq_true rfl) ⟨by show C ≤ 616682; omega, by show S ≤ 7252203; omega⟩ dL_law_1053 rfl ?_
  refine v_wt (fun hwx => ?_)
  refine V.swap hwm ?_
  refine v_aload_n hCm dL_law_1056 2 rfl ?_
  refine v_aload_n hCm dL_law_1057 0 rfl ?_
  refine v_iload_n hCm dL_law_1058 3 rfl ?_
  refine v_iconst (v := 1) hCm dL_law_1059 (by decide) ?_
  refine v_iadd hCm dL_law_1060 ?_
  refine v_sld hCm hX hbl hbA h1 dL_law_1061 ?_
  refine v_aload_n hCm dL_law_1062 0 rfl ?_
  refine v_iload_n hCm dL_law_1063 3 rfl ?_
  refine v_iconst (v := 2) hCm dL_law_1064 (by decide) ?_
  refine v_iadd hCm dL_law_1065 ?_
  refine v_sld hCm hX hbl hbA h2 dL_law_1066 ?_
  refine v_aload_n hCm dL_law_1067 0 rfl ?_
  refine v_iload_n hCm dL_law_1068 3 rfl ?_
  refine v_iconst (v := 3) hCm dL_law_1069 (by decide) ?_
  refine v_iadd hCm dL_law_1070 ?_
  refine v_sld hCm hX hbl hbA h3 dL_law_1071 ?_
  refine v_aload_n hCm dL_law_1072 0 rfl ?_
  refine v_iload_n hCm dL_law_1073 3 rfl ?_
  refine v_iconst (v := 4) hCm dL_law_1074 (by decide) ?_
  refine v_iadd hCm dL_law_1075 ?_
  refine v_sld hCm hX hbl hbA h4 dL_law_1076 ?_
  refine v_aload_n hCm dL_law_1077 0 rfl ?_
  refine v_iload_n hCm dL_law_1078 3 rfl ?_
  refine v_iconst (v := 5) hCm dL_law_1079 (by decide) ?_
  refine v_iadd hCm dL_law_1080 ?_
  refine v_sld hCm hX hbl hbA h5 dL_law_1081 ?_
  have hGm : GX (D, cA, adm, idM, wl (D, cA, ad, ids, []) xY σ') mY := GX_idM rfl
  have hOm : Ob (D, cA, adm, idM, wl (D, cA, ad, ids, []) xY σ') mY 0 8 := ⟨(by decide : 0 ∈ idM), rfl⟩
  refine v_callVI (G := (D, cA, adm, idM, wl (D, cA, ad, ids, []) xY σ')) hCm mE_ok (n := 5) (As := [.int (xs (i0 + 1).toNatClampNeg), .int (xs (i0 + 2).toNatClampNeg), .int (xs (i0 + 3).toNatClampNeg), .int (xs (i0 + 4).toNatClampNeg), .int (xs (i0 + 5).toNatClampNeg)]) (k_X9_copy l hGm hOm e2) (cwV 5 hCm.1.2.2.2.2 gL_law_X9_copy rfl rfl rfl (by decide +kernel) ⟨(Nat.le_of_ble_eq_true rfl), (Nat.le_of_ble_eq_true rfl)⟩) hOm (by decide) rfl rfl rfl (Nat.le_of_ble_eq_true rfl) ⟨by show C ≤ 616682; omega, by show S ≤ 7252203; omega⟩ dL_law_1082 rfl ?_
  refine v_wt (fun hwm2 => ?_)
  refine V.swap (wt_ex hwx) ?_
  refine v_icmp_eq (tgt := 1176) hCx dL_law_1085 (by decide) (fun _ => ?_) (fun h => absurd rfl h)
  exact V.widen (by omega) (by omega) (kk n0 ad ids σ' υ' ⟨hR', hids, wt_ex hwm2⟩)
set_option maxHeartbeats 4000000 in
set_option maxRecDepth 100000 in
theorem lw_case30 {adK adV : Nat → Nat} {tb : Nat} {p : Program} {l : Launch} {e : Env} {s : State} {m : MethodId} {below : List Frame} {meth : Method} {c : Code} {A : Nat → Prop} {D : va_G} {cA : Nat → ClassId} {ad adm : Nat → Nat} {ids : List Nat} {b N n0 C S : Nat} {xs : Nat → Int32} {σ υ : HS} {Q : State → Prop} {i0 : Int32} (hX : va_X b N xs s s.heap) (hbl : b < s.heap.size) (hbA : ¬ A b) (hCx : Cx (xE adK adV tb) D cA xY code 4 ret RL wsL_law p s m #[Value.ref b] meth c A) (hCm : Cx mE D cA mY code 4 ret RL wsL_law p s m #[Value.ref b] meth c A) (hI : LI D cA ad ids adm n0 σ υ) (h1 : vp_in (i0 + 1) N) (h2 : vp_in (i0 + 2) N) (h3 : vp_in (i0 + 3) N) (h4 : vp_in (i0 + 4) N) (h5 : vp_in (i0 + 5) N) (hb : C + 18 ≤ 616682 ∧ S + 90 ≤ 7252203) (kk : ∀ (n' : Nat) (ad' : Nat → Nat) (ids' : List Nat) (σ' υ' : HS), LI D cA ad' ids' adm n' σ' υ' → V p l e room_1 s m #[Value.ref b] below meth c 4 A (D, cA, ad', ids', wl (D, cA, adm, idM, []) mY υ') xY (C + 18) (S + 90) Q σ' 1176 [(0, .ref b), (1, .ref (ad' 0)), (2, .ref (adm 0)), (3, .int i0)] []) : V p l e room_1 s m #[Value.ref b] below meth c 4 A (D, cA, ad, ids, wl (D, cA, adm, idM, []) mY υ) xY C S Q σ 1090 [(0, .ref b), (1, .ref (ad 0)), (2, .ref (adm 0)), (3, .int i0)] [] := by
  obtain ⟨hR, hids, hwm⟩ := hI
  have hG : GX (D, cA, ad, ids, wl (D, cA, adm, idM, []) mY υ) xY := GX_xS (RelE_8 hR).1 hids
  have hO : Ob (D, cA, ad, ids, wl (D, cA, adm, idM, []) mY υ) xY 0 7 := ⟨(hids 0).mpr (Or.inl (by decide)), rfl⟩
  obtain ⟨r, σ', υ', n', e1, e2, hR'⟩ := Op_plans (xs (i0 + 1).toNatClampNeg) (xs (i0 + 2).toNatClampNeg) (xs (i0 + 3).toNatClampNeg) (xs (i0 + 4).toNatClampNeg) hR
  refine v_aload_n hCx dL_law_1090 1 rfl ?_
  refine v_aload_n hCx dL_law_1091 0 rfl ?_
  refine v_iload_n hCx dL_law_1092 3 rfl ?_
  refine v_iconst (v := 1) hCx dL_law_1093 (by decide) ?_
  refine v_iadd hCx dL_law_1094 ?_
  refine v_sld hCx hX hbl hbA h1 dL_law_1095 ?_
  refine v_aload_n hCx dL_law_1096 0 rfl ?_
  refine v_iload_n hCx dL_law_1097 3 rfl ?_
  refine v_iconst (v := 2) hCx dL_law_1098 (by decide) ?_
  refine v_iadd hCx dL_law_1099 ?_
  refine v_sld hCx hX hbl hbA h2 dL_law_1100 ?_
  refine v_aload_n hCx dL_law_1101 0 rfl ?_
  refine v_iload_n hCx dL_law_1102 3 rfl ?_
  refine v_iconst (v := 3) hCx dL_law_1103 (by decide) ?_
  refine v_iadd hCx dL_law_1104 ?_
  refine v_sld hCx hX hbl hbA h3 dL_law_1105 ?_
  refine v_aload_n hCx dL_law_1106 0 rfl ?_
  refine v_iload_n hCx dL_law_1107 3 rfl ?_
  refine v_iconst (v := 4) hCx dL_law_1108 (by decide) ?_
  refine v_iadd hCx dL_law_1109 ?_
  refine v_sld hCx hX hbl hbA h4 dL_law_1110 ?_
  refine v_callPX hCx xE_ok (n := 4) (As := [.int (xs (i0 + 1).toNatClampNeg), .int (xs (i0 + 2).toNatClampNeg), .int (xs (i0 + 3).toNatClampNeg), .int (xs (i0 + 4).toNatClampNeg)]) (k_X8_plans l (XI_of hR hids) e1) (cwV 4 hCx.1.2.2.2.2 gL_law_X8_plans rfl rfl rfl (by decide +kernel) ⟨(Nat.le_of_ble_eq_true rfl), (Nat.le_of_ble_eq_true rfl)⟩) ⟨(hids 0).mpr (Or.inl (by decide)), rfl⟩ rfl (Nat.le_of_ble_eq_true rfl) ⟨by show C + 18 ≤ 616682; omega, by show S + 90 ≤ 7252203; omega⟩ dL_law_1111 rfl (fun u hu => ?_)
  have a0 : u.1 0 = ad 0 := hu.2.1 0 ((hids 0).mpr (Or.inl (by decide)))
  refine v_wt (fun hwx => ?_)
  refine V.swap hwm ?_
  refine v_aload_n hCm dL_law_1114 2 rfl ?_
  refine v_aload_n hCm dL_law_1115 0 rfl ?_
  refine v_iload_n hCm dL_law_1116 3 rfl ?_
  refine v_iconst (v := 1) hCm dL_law_1117 (by decide) ?_
  refine v_iadd hCm dL_law_1118 ?_
  refine v_sld hCm hX hbl hbA h1 dL_law_1119 ?_
  refine v_aload_n hCm dL_law_1120 0 rfl ?_
  refine v_iload_n hCm dL_law_1121 3 rfl ?_
  refine v_iconst (v := 2) hCm dL_law_1122 (by decide) ?_
  refine v_iadd hCm dL_law_1123 ?_
  refine v_sld hCm hX hbl hbA h2 dL_law_1124 ?_
  refine v_aload_n hCm dL_law_1125 0 rfl ?_
  refine v_iload_n hCm dL_law_1126 3 rfl ?_
  refine v_iconst (v := 3) hCm dL_law_1127 (by decide) ?_
  refine v_iadd hCm dL_law_1128 ?_
  refine v_sld hCm hX hbl hbA h3 dL_law_1129 ?_
  refine v_aload_n hCm dL_law_1130 0 rfl ?_
  refine v_iload_n hCm dL_law_1131 3 rfl ?_
  refine v_iconst (v := 4) hCm dL_law_1132 (by decide) ?_
  refine v_iadd hCm dL_law_1133 ?_
  refine v_sld hCm hX hbl hbA h4 dL_law_1134 ?_
  have hGm : GX (D, cA, adm, idM, wl (D, cA, u.1, u.2, []) xY σ') mY := GX_idM rfl
  have hOm : Ob (D, cA, adm, idM, wl (D, cA, u.1, u.2, []) xY σ') mY 0 8 := ⟨(by decide : 0 ∈ idM), rfl⟩
  refine v_callVI (G := (D, cA, adm, idM, wl (D, cA, u.1, u.2, []) xY σ')) hCm mE_ok (n := 4) (As := [.int (xs (i0 + 1).toNatClampNeg), .int (xs (i0 + 2).toNatClampNeg), .int (xs (i0 + 3).toNatClampNeg), .int (xs (i0 + 4).toNatClampNeg)]) (k_X9_plans l hGm hOm e2) (cwV 4 hCm.1.2.2.2.2 gL_law_X9_plans rfl rfl rfl (by decide +kernel) ⟨(Nat.le_of_ble_eq_true rfl), (Nat.le_of_ble_eq_true rfl)⟩) hOm (by decide) rfl rfl rfl (Nat.le_of_ble_eq_true rfl) ⟨by show C + 18 ≤ 616682; omega, by show S + 90 ≤ 7252203; omega⟩ dL_law_1135 rfl ?_
  refine v_wt (fun hwm2 => ?_)
  refine V.swap (wt_ex hwx) ?_
  refine v_icmp_eq (tgt := 1176) hCx dL_law_1138 (by decide) (fun _ => ?_) (fun h => absurd rfl h)
  refine V.cast (L' := [(0, .ref b), (1, .ref (u.1 0)), (2, .ref (adm 0)), (3, .int i0)]) (st' := []) (by rw [a0]) rfl ?_
  exact V.widen (by omega) (by omega) (kk n' u.1 u.2 σ' υ' (LI_plan hu hR' (wt_ex hwm2)))
set_option maxHeartbeats 4000000 in
set_option maxRecDepth 100000 in
theorem lw_case31 {adK adV : Nat → Nat} {tb : Nat} {p : Program} {l : Launch} {e : Env} {s : State} {m : MethodId} {below : List Frame} {meth : Method} {c : Code} {A : Nat → Prop} {D : va_G} {cA : Nat → ClassId} {ad adm : Nat → Nat} {ids : List Nat} {b N n0 C S : Nat} {xs : Nat → Int32} {σ υ : HS} {Q : State → Prop} {i0 : Int32} (hX : va_X b N xs s s.heap) (hbl : b < s.heap.size) (hbA : ¬ A b) (hCx : Cx (xE adK adV tb) D cA xY code 4 ret RL wsL_law p s m #[Value.ref b] meth c A) (hCm : Cx mE D cA mY code 4 ret RL wsL_law p s m #[Value.ref b] meth c A) (hI : LI D cA ad ids adm n0 σ υ) (h1 : vp_in (i0 + 1) N) (h2 : vp_in (i0 + 2) N) (h3 : vp_in (i0 + 3) N) (h4 : vp_in (i0 + 4) N) (h5 : vp_in (i0 + 5) N) (hb : C + 18 ≤ 616682 ∧ S + 90 ≤ 7252203) (kk : ∀ (n' : Nat) (ad' : Nat → Nat) (ids' : List Nat) (σ' υ' : HS), LI D cA ad' ids' adm n' σ' υ' → V p l e room_1 s m #[Value.ref b] below meth c 4 A (D, cA, ad', ids', wl (D, cA, adm, idM, []) mY υ') xY (C + 18) (S + 90) Q σ' 1176 [(0, .ref b), (1, .ref (ad' 0)), (2, .ref (adm 0)), (3, .int i0)] []) : V p l e room_1 s m #[Value.ref b] below meth c 4 A (D, cA, ad, ids, wl (D, cA, adm, idM, []) mY υ) xY C S Q σ 1143 [(0, .ref b), (1, .ref (ad 0)), (2, .ref (adm 0)), (3, .int i0)] [] := by
  obtain ⟨hR, hids, hwm⟩ := hI
  have hG : GX (D, cA, ad, ids, wl (D, cA, adm, idM, []) mY υ) xY := GX_xS (RelE_8 hR).1 hids
  have hO : Ob (D, cA, ad, ids, wl (D, cA, adm, idM, []) mY υ) xY 0 7 := ⟨(hids 0).mpr (Or.inl (by decide)), rfl⟩
  obtain ⟨r, σ', υ', e1, e2, hR'⟩ := Op_taken (xs (i0 + 1).toNatClampNeg) (xs (i0 + 2).toNatClampNeg) hR
  refine v_aload_n hCx dL_law_1143 1 rfl ?_
  refine v_aload_n hCx dL_law_1144 0 rfl ?_
  refine v_iload_n hCx dL_law_1145 3 rfl ?_
  refine v_iconst (v := 1) hCx dL_law_1146 (by decide) ?_
  refine v_iadd hCx dL_law_1147 ?_
  refine v_sld hCx hX hbl hbA h1 dL_law_1148 ?_
  refine v_aload_n hCx dL_law_1149 0 rfl ?_
  refine v_iload_n hCx dL_law_1150 3 rfl ?_
  refine v_iconst (v := 2) hCx dL_law_1151 (by decide) ?_
  refine v_iadd hCx dL_law_1152 ?_
  refine v_sld hCx hX hbl hbA h2 dL_law_1153 ?_
  refine v_callVI (G := (D, cA, ad, ids, wl (D, cA, adm, idM, []) mY υ)) hCx xE_ok (n := 2) (As := [.int (xs (i0 + 1).toNatClampNeg), .int (xs (i0 + 2).toNatClampNeg)]) (k_X8_taken l hG hO e1) (cwV 2 hCx.1.2.2.2.2 gL_law_X8_taken rfl rfl rfl (by decide +kernel) ⟨(Nat.le_of_ble_eq_true rfl), (Nat.le_of_ble_eq_true rfl)⟩) hO (by decide) rfl rfl rfl (Nat.le_of_ble_eq_true rfl) ⟨by show C ≤ 616682; omega, by show S ≤ 7252203; omega⟩ dL_law_1154 rfl ?_
  refine v_wt (fun hwx => ?_)
  refine V.swap hwm ?_
  refine v_aload_n hCm dL_law_1157 2 rfl ?_
  refine v_aload_n hCm dL_law_1158 0 rfl ?_
  refine v_iload_n hCm dL_law_1159 3 rfl ?_
  refine v_iconst (v := 1) hCm dL_law_1160 (by decide) ?_
  refine v_iadd hCm dL_law_1161 ?_
  refine v_sld hCm hX hbl hbA h1 dL_law_1162 ?_
  refine v_aload_n hCm dL_law_1163 0 rfl ?_
  refine v_iload_n hCm dL_law_1164 3 rfl ?_
  refine v_iconst (v := 2) hCm dL_law_1165 (by decide) ?_
  refine v_iadd hCm dL_law_1166 ?_
  refine v_sld hCm hX hbl hbA h2 dL_law_1167 ?_
  have hGm : GX (D, cA, adm, idM, wl (D, cA, ad, ids, []) xY σ') mY := GX_idM rfl
  have hOm : Ob (D, cA, adm, idM, wl (D, cA, ad, ids, []) xY σ') mY 0 8 := ⟨(by decide : 0 ∈ idM), rfl⟩
  refine v_callVI (G := (D, cA, adm, idM, wl (D, cA, ad, ids, []) xY σ')) hCm mE_ok (n := 2) (As := [.int (xs (i0 + 1).toNatClampNeg), .int (xs (i0 + 2).toNatClampNeg)]) (k_X9_taken l hGm hOm e2) (cwV 2 hCm.1.2.2.2.2 gL_law_X9_taken rfl rfl rfl (by decide +kernel) ⟨(Nat.le_of_ble_eq_true rfl), (Nat.le_of_ble_eq_true rfl)⟩) hOm (by decide) rfl rfl rfl (Nat.le_of_ble_eq_true rfl) ⟨by show C ≤ 616682; omega, by show S ≤ 7252203; omega⟩ dL_law_1168 rfl ?_
  refine v_wt (fun hwm2 => ?_)
  refine V.swap (wt_ex hwx) ?_
  refine v_icmp_eq (tgt := 1176) hCx dL_law_1171 (by decide) (fun _ => ?_) (fun h => absurd rfl h)
  exact V.widen (by omega) (by omega) (kk n0 ad ids σ' υ' ⟨hR', hids, wt_ex hwm2⟩)
