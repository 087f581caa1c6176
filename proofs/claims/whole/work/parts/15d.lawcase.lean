/-! THE LAW: its calls -/
set_option maxHeartbeats 4000000 in
set_option maxRecDepth 100000 in
theorem lw_case16 {adK adV : Nat → Nat} {tb : Nat} {p : Program} {l : Launch} {e : Env} {s : State} {m : MethodId} {below : List Frame} {meth : Method} {c : Code} {A : Nat → Prop} {D : va_G} {cA : Nat → ClassId} {ad adm : Nat → Nat} {ids : List Nat} {b N n0 C S : Nat} {xs : Nat → Int32} {σ υ : HS} {Q : State → Prop} {i0 : Int32} (hX : va_X b N xs s s.heap) (hbl : b < s.heap.size) (hbA : ¬ A b) (hCx : Cx (xE adK adV tb) D cA xY code 4 ret RL wsL_law p s m #[Value.ref b] meth c A) (hCm : Cx mE D cA mY code 4 ret RL wsL_law p s m #[Value.ref b] meth c A) (hI : LI D cA ad ids adm n0 σ υ) (h1 : vp_in (i0 + 1) N) (h2 : vp_in (i0 + 2) N) (h3 : vp_in (i0 + 3) N) (h4 : vp_in (i0 + 4) N) (h5 : vp_in (i0 + 5) N) (hb : C + 18 ≤ 616682 ∧ S + 90 ≤ 7252203) (kk : ∀ (n' : Nat) (ad' : Nat → Nat) (ids' : List Nat) (σ' υ' : HS), LI D cA ad' ids' adm n' σ' υ' → V p l e room_1 s m #[Value.ref b] below meth c 4 A (D, cA, ad', ids', wl (D, cA, adm, idM, []) mY υ') xY (C + 18) (S + 90) Q σ' 1176 [(0, .ref b), (1, .ref (ad' 0)), (2, .ref (adm 0)), (3, .int i0)] []) : V p l e room_1 s m #[Value.ref b] below meth c 4 A (D, cA, ad, ids, wl (D, cA, adm, idM, []) mY υ) xY C S Q σ 655 [(0, .ref b), (1, .ref (ad 0)), (2, .ref (adm 0)), (3, .int i0)] [] := by
  obtain ⟨hR, hids, hwm⟩ := hI
  have hG : GX (D, cA, ad, ids, wl (D, cA, adm, idM, []) mY υ) xY := GX_xS (RelE_8 hR).1 hids
  have hO : Ob (D, cA, ad, ids, wl (D, cA, adm, idM, []) mY υ) xY 0 7 := ⟨(hids 0).mpr (Or.inl (by decide)), rfl⟩
  obtain ⟨r, σ', υ', e1, e2, hR'⟩ := Op_wins (xs (i0 + 1).toNatClampNeg) (xs (i0 + 2).toNatClampNeg) hR
  refine v_aload_n hCx dL_law_655 1 rfl ?_
  refine v_aload_n hCx dL_law_656 0 rfl ?_
  refine v_iload_n hCx dL_law_657 3 rfl ?_
  refine v_iconst (v := 1) hCx dL_law_658 (by decide) ?_
  refine v_iadd hCx dL_law_659 ?_
  refine v_sld hCx hX hbl hbA h1 dL_law_660 ?_
  refine v_aload_n hCx dL_law_661 0 rfl ?_
  refine v_iload_n hCx dL_law_662 3 rfl ?_
  refine v_iconst (v := 2) hCx dL_law_663 (by decide) ?_
  refine v_iadd hCx dL_law_664 ?_
  refine v_sld hCx hX hbl hbA h2 dL_law_665 ?_
  refine v_callVJ (G := (D, cA, ad, ids, wl (D, cA, adm, idM, []) mY υ)) hCx xE_ok (n := 2) (As := [.int (xs (i0 + 1).toNatClampNeg), .int (xs (i0 + 2).toNatClampNeg)]) (k_X8_wins l hG hO e1) (cwV 2 hCx.1.2.2.2.2 gL_law_X8_wins rfl rfl rfl (by decide +kernel) ⟨(Nat.le_of_ble_eq_true rfl), (Nat.le_of_ble_eq_true rfl)⟩) hO (by decide) rfl rfl rfl (Nat.le_of_ble_eq_true rfl) ⟨by show C ≤ 616682; omega, by show S ≤ 7252203; omega⟩ dL_law_666 rfl ?_
  refine v_wt (fun hwx => ?_)
  refine V.swap hwm ?_
  refine v_aload_n hCm dL_law_669 2 rfl ?_
  refine v_aload_n hCm dL_law_670 0 rfl ?_
  refine v_iload_n hCm dL_law_671 3 rfl ?_
  refine v_iconst (v := 1) hCm dL_law_672 (by decide) ?_
  refine v_iadd hCm dL_law_673 ?_
  refine v_sld hCm hX hbl hbA h1 dL_law_674 ?_
  refine v_aload_n hCm dL_law_675 0 rfl ?_
  refine v_iload_n hCm dL_law_676 3 rfl ?_
  refine v_iconst (v := 2) hCm dL_law_677 (by decide) ?_
  refine v_iadd hCm dL_law_678 ?_
  refine v_sld hCm hX hbl hbA h2 dL_law_679 ?_
  have hGm : GX (D, cA, adm, idM, wl (D, cA, ad, ids, []) xY σ') mY := GX_idM rfl
  have hOm : Ob (D, cA, adm, idM, wl (D, cA, ad, ids, []) xY σ') mY 0 8 := ⟨(by decide : 0 ∈ idM), rfl⟩
  refine v_callVJ (G := (D, cA, adm, idM, wl (D, cA, ad, ids, []) xY σ')) hCm mE_ok (n := 2) (As := [.int (xs (i0 + 1).toNatClampNeg), .int (xs (i0 + 2).toNatClampNeg)]) (k_X9_wins l hGm hOm e2) (cwV 2 hCm.1.2.2.2.2 gL_law_X9_wins rfl rfl rfl (by decide +kernel) ⟨(Nat.le_of_ble_eq_true rfl), (Nat.le_of_ble_eq_true rfl)⟩) hOm (by decide) rfl rfl rfl (Nat.le_of_ble_eq_true rfl) ⟨by show C ≤ 616682; omega, by show S ≤ 7252203; omega⟩ dL_law_680 rfl ?_
  refine v_wt (fun hwm2 => ?_)
  refine V.swap (wt_ex hwx) ?_
  refine v_lcmp hCx dL_law_683 ?_
  refine v_if_eq (tgt := 1176) hCx dL_law_684 (by decide) (fun _ => ?_) (fun h => absurd ((lg_cmp_eq _ _).mpr rfl) h)
  exact V.widen (by omega) (by omega) (kk n0 ad ids σ' υ' ⟨hR', hids, wt_ex hwm2⟩)
set_option maxHeartbeats 4000000 in
set_option maxRecDepth 100000 in
theorem lw_case17 {adK adV : Nat → Nat} {tb : Nat} {p : Program} {l : Launch} {e : Env} {s : State} {m : MethodId} {below : List Frame} {meth : Method} {c : Code} {A : Nat → Prop} {D : va_G} {cA : Nat → ClassId} {ad adm : Nat → Nat} {ids : List Nat} {b N n0 C S : Nat} {xs : Nat → Int32} {σ υ : HS} {Q : State → Prop} {i0 : Int32} (hX : va_X b N xs s s.heap) (hbl : b < s.heap.size) (hbA : ¬ A b) (hCx : Cx (xE adK adV tb) D cA xY code 4 ret RL wsL_law p s m #[Value.ref b] meth c A) (hCm : Cx mE D cA mY code 4 ret RL wsL_law p s m #[Value.ref b] meth c A) (hI : LI D cA ad ids adm n0 σ υ) (h1 : vp_in (i0 + 1) N) (h2 : vp_in (i0 + 2) N) (h3 : vp_in (i0 + 3) N) (h4 : vp_in (i0 + 4) N) (h5 : vp_in (i0 + 5) N) (hb : C + 18 ≤ 616682 ∧ S + 90 ≤ 7252203) (kk : ∀ (n' : Nat) (ad' : Nat → Nat) (ids' : List Nat) (σ' υ' : HS), LI D cA ad' ids' adm n' σ' υ' → V p l e room_1 s m #[Value.ref b] below meth c 4 A (D, cA, ad', ids', wl (D, cA, adm, idM, []) mY υ') xY (C + 18) (S + 90) Q σ' 1176 [(0, .ref b), (1, .ref (ad' 0)), (2, .ref (adm 0)), (3, .int i0)] []) : V p l e room_1 s m #[Value.ref b] below meth c 4 A (D, cA, ad, ids, wl (D, cA, adm, idM, []) mY υ) xY C S Q σ 689 [(0, .ref b), (1, .ref (ad 0)), (2, .ref (adm 0)), (3, .int i0)] [] := by
  obtain ⟨hR, hids, hwm⟩ := hI
  have hG : GX (D, cA, ad, ids, wl (D, cA, adm, idM, []) mY υ) xY := GX_xS (RelE_8 hR).1 hids
  have hO : Ob (D, cA, ad, ids, wl (D, cA, adm, idM, []) mY υ) xY 0 7 := ⟨(hids 0).mpr (Or.inl (by decide)), rfl⟩
  obtain ⟨r, σ', υ', e1, e2, hR'⟩ := Op_mean (xs (i0 + 1).toNatClampNeg) (xs (i0 + 2).toNatClampNeg) hR
  refine v_aload_n hCx dL_law_689 1 rfl ?_
  refine v_aload_n hCx dL_law_690 0 rfl ?_
  refine v_iload_n hCx dL_law_691 3 rfl ?_
  refine v_iconst (v := 1) hCx dL_law_692 (by decide) ?_
  refine v_iadd hCx dL_law_693 ?_
  refine v_sld hCx hX hbl hbA h1 dL_law_694 ?_
  refine v_aload_n hCx dL_law_695 0 rfl ?_
  refine v_iload_n hCx dL_law_696 3 rfl ?_
  refine v_iconst (v := 2) hCx dL_law_697 (by decide) ?_
  refine v_iadd hCx dL_law_698 ?_
  refine v_sld hCx hX hbl hbA h2 dL_law_699 ?_
  refine v_callVJ (G := (D, cA, ad, ids, wl (D, cA, adm, idM, []) mY υ)) hCx xE_ok (n := 2) (As := [.int (xs (i0 + 1).toNatClampNeg), .int (xs (i0 + 2).toNatClampNeg)]) (k_X8_mean l hG hO e1) (cwV 2 hCx.1.2.2.2.2 gL_law_X8_mean rfl rfl rfl (by decide +kernel) ⟨(Nat.le_of_ble_eq_true rfl), (Nat.le_of_ble_eq_true rfl)⟩) hO (by decide) rfl rfl rfl (Nat.le_of_ble_eq_true rfl) ⟨by show C ≤ 616682; omega, by show S ≤ 7252203; omega⟩ dL_law_700 rfl ?_
  refine v_wt (fun hwx => ?_)
  refine V.swap hwm ?_
  refine v_aload_n hCm dL_law_703 2 rfl ?_
  refine v_aload_n hCm dL_law_704 0 rfl ?_
  refine v_iload_n hCm dL_law_705 3 rfl ?_
  refine v_iconst (v := 1) hCm dL_law_706 (by decide) ?_
  refine v_iadd hCm dL_law_707 ?_
  refine v_sld hCm hX hbl hbA h1 dL_law_708 ?_
  refine v_aload_n hCm dL_law_709 0 rfl ?_
  refine v_iload_n hCm dL_law_710 3 rfl ?_
  refine v_iconst (v := 2) hCm dL_law_711 (by decide) ?_
  refine v_iadd hCm dL_law_712 ?_
  refine v_sld hCm hX hbl hbA h2 dL_law_713 ?_
  have hGm : GX (D, cA, adm, idM, wl (D, cA, ad, ids, []) xY σ') mY := GX_idM rfl
  have hOm : Ob (D, cA, adm, idM, wl (D, cA, ad, ids, []) xY σ') mY 0 8 := ⟨(by decide : 0 ∈ idM), rfl⟩
  refine v_callVJ (G := (D, cA, adm, idM, wl (D, cA, ad, ids, []) xY σ')) hCm mE_ok (n := 2) (As := [.int (xs (i0 + 1).toNatClampNeg), .int (xs (i0 + 2).toNatClampNeg)]) (k_X9_mean l hGm hOm e2) (cwV 2 hCm.1.2.2.2.2 gL_law_X9_mean rfl rfl rfl (by decide +kernel) ⟨(Nat.le_of_ble_eq_true rfl), (Nat.le_of_ble_eq_true rfl)⟩) hOm (by decide) rfl rfl rfl (Nat.le_of_ble_eq_true rfl) ⟨by show C ≤ 616682; omega, by show S ≤ 7252203; omega⟩ dL_law_714 rfl ?_
  refine v_wt (fun hwm2 => ?_)
  refine V.swap (wt_ex hwx) ?_
  refine v_lcmp hCx dL_law_717 ?_
  refine v_if_eq (tgt := 1176) hCx dL_law_718 (by decide) (fun _ => ?_) (fun h => absurd ((lg_cmp_eq _ _).mpr rfl) h)
  exact V.widen (by omega) (by omega) (kk n0 ad ids σ' υ' ⟨hR', hids, wt_ex hwm2⟩)
set_option maxHeartbeats 4000000 in
set_option maxRecDepth 100000 in
theorem lw_case18 {adK adV : Nat → Nat} {tb : Nat} {p : Program} {l : Launch} {e : Env} {s : State} {m : MethodId} {below : List Frame} {meth : Method} {c : Code} {A : Nat → Prop} {D : va_G} {cA : Nat → ClassId} {ad adm : Nat → Nat} {ids : List Nat} {b N n0 C S : Nat} {xs : Nat → Int32} {σ υ : HS} {Q : State → Prop} {i0 : Int32} (hX : va_X b N xs s s.heap) (hbl : b < s.heap.size) (hbA : ¬ A b) (hCx : Cx (xE adK adV tb) D cA xY code 4 ret RL wsL_law p s m #[Value.ref b] meth c A) (hCm : Cx mE D cA mY code 4 ret RL wsL_law p s m #[Value.ref b] meth c A) (hI : LI D cA ad ids adm n0 σ υ) (h1 : vp_in (i0 + 1) N) (h2 : vp_in (i0 + 2) N) (h3 : vp_in (i0 + 3) N) (h4 : vp_in (i0 + 4) N) (h5 : vp_in (i0 + 5) N) (hb : C + 18 ≤ 616682 ∧ S + 90 ≤ 7252203) (kk : ∀ (n' : Nat) (ad' : Nat → Nat) (ids' : List Nat) (σ' υ' : HS), LI D cA ad' ids' adm n' σ' υ' → V p l e room_1 s m #[Value.ref b] below meth c 4 A (D, cA, ad', ids', wl (D, cA, adm, idM, []) mY υ') xY (C + 18) (S + 90) Q σ' 1176 [(0, .ref b), (1, .ref (ad' 0)), (2, .ref (adm 0)), (3, .int i0)] []) : V p l e room_1 s m #[Value.ref b] below meth c 4 A (D, cA, ad, ids, wl (D, cA, adm, idM, []) mY υ) xY C S Q σ 723 [(0, .ref b), (1, .ref (ad 0)), (2, .ref (adm 0)), (3, .int i0)] [] := by
  obtain ⟨hR, hids, hwm⟩ := hI
  have hG : GX (D, cA, ad, ids, wl (D, cA, adm, idM, []) mY υ) xY := GX_xS (RelE_8 hR).1 hids
  have hO : Ob (D, cA, ad, ids, wl (D, cA, adm, idM, []) mY υ) xY 0 7 := ⟨(hids 0).mpr (Or.inl (by decide)), rfl⟩
  obtain ⟨r, σ', υ', e1, e2, hR'⟩ := Op_worst (xs (i0 + 1).toNatClampNeg) (xs (i0 + 2).toNatClampNeg) hR
  refine v_aload_n hCx dL_law_723 1 rfl ?_
  refine v_aload_n hCx dL_law_724 0 rfl ?_
  refine v_iload_n hCx dL_law_725 3 rfl ?_
  refine v_iconst (v := 1) hCx dL_law_726 (by decide) ?_
  refine v_iadd hCx dL_law_727 ?_
  refine v_sld hCx hX hbl hbA h1 dL_law_728 ?_
  refine v_aload_n hCx dL_law_729 0 rfl ?_
  refine v_iload_n hCx dL_law_730 3 rfl ?_
  refine v_iconst (v := 2) hCx dL_law_731 (by decide) ?_
  refine v_iadd hCx dL_law_732 ?_
  refine v_sld hCx hX hbl hbA h2 dL_law_733 ?_
  refine v_callVI (G := (D, cA, ad, ids, wl (D, cA, adm, idM, []) mY υ)) hCx xE_ok (n := 2) (As := [.int (xs (i0 + 1).toNatClampNeg), .int (xs (i0 + 2).toNatClampNeg)]) (k_X8_worst l hG hO e1) (cwV 2 hCx.1.2.2.2.2 gL_law_X8_worst rfl rfl rfl (by decide +kernel) ⟨(Nat.le_of_ble_eq_true rfl), (Nat.le_of_ble_eq_true rfl)⟩) hO (by decide) rfl rfl rfl (Nat.le_of_ble_eq_true rfl) ⟨by show C ≤ 616682; omega, by show S ≤ 7252203; omega⟩ dL_law_734 rfl ?_
  refine v_wt (fun hwx => ?_)
  refine V.swap hwm ?_
  refine v_aload_n hCm dL_law_737 2 rfl ?_
  refine v_aload_n hCm dL_law_738 0 rfl ?_
  refine v_iload_n hCm dL_law_739 3 rfl ?_
  refine v_iconst (v := 1) hCm dL_law_740 (by decide) ?_
  refine v_iadd hCm dL_law_741 ?_
  refine v_sld hCm hX hbl hbA h1 dL_law_742 ?_
  refine v_aload_n hCm dL_law_743 0 rfl ?_
  refine v_iload_n hCm dL_law_744 3 rfl ?_
  refine v_iconst (v := 2) hCm dL_law_745 (by decide) ?_
  refine v_iadd hCm dL_law_746 ?_
  refine v_sld hCm hX hbl hbA h2 dL_law_747 ?_
  have hGm : GX (D, cA, adm, idM, wl (D, cA, ad, ids, []) xY σ') mY := GX_idM rfl
  have hOm : Ob (D, cA, adm, idM, wl (D, cA, ad, ids, []) xY σ') mY 0 8 := ⟨(by decide : 0 ∈ idM), rfl⟩
  refine v_callVI (G := (D, cA, adm, idM, wl (D, cA, ad, ids, []) xY σ')) hCm mE_ok (n := 2) (As := [.int (xs (i0 + 1).toNatClampNeg), .int (xs (i0 + 2).toNatClampNeg)]) (k_X9_worst l hGm hOm e2) (cwV 2 hCm.1.2.2.2.2 gL_law_X9_worst rfl rfl rfl (by decide +kernel) ⟨(Nat.le_of_ble_eq_true rfl), (Nat.le_of_ble_eq_true rfl)⟩) hOm (by decide) rfl rfl rfl (Nat.le_of_ble_eq_true rfl) ⟨by show C ≤ 616682; omega, by show S ≤ 7252203; omega⟩ dL_law_748 rfl ?_
  refine v_wt (fun hwm2 => ?_)
  refine V.swap (wt_ex hwx) ?_
  refine v_icmp_eq (tgt := 1176) hCx dL_law_751 (by decide) (fun _ => ?_) (fun h => absurd rfl h)
  exact V.widen (by omega) (by omega) (kk n0 ad ids σ' υ' ⟨hR', hids, wt_ex hwm2⟩)
set_option maxHeartbeats 4000000 in
set_option maxRecDepth 100000 in
theorem lw_case19 {adK adV : Nat → Nat} {tb : Nat} {p : Program} {l : Launch} {e : Env} {s : State} {m : MethodId} {below : List Frame} {meth : Method} {c : Code} {A : Nat → Prop} {D : va_G} {cA : Nat → ClassId} {ad adm : Nat → Nat} {ids : List Nat} {b N n0 C S : Nat} {xs : Nat → Int32} {σ υ : HS} {Q : State → Prop} {i0 : Int32} (hX : va_X b N xs s s.heap) (hbl : b < s.heap.size) (hbA : ¬ A b) (hCx : Cx (xE adK adV tb) D cA xY code 4 ret RL wsL_law p s m #[Value.ref b] meth c A) (hCm : Cx mE D cA mY code 4 ret RL wsL_law p s m #[Value.ref b] meth c A) (hI : LI D cA ad ids adm n0 σ υ) (h1 : vp_in (i0 + 1) N) (h2 : vp_in (i0 + 2) N) (h3 : vp_in (i0 + 3) N) (h4 : vp_in (i0 + 4) N) (h5 : vp_in (i0 + 5) N) (hb : C + 18 ≤ 616682 ∧ S + 90 ≤ 7252203) (kk : ∀ (n' : Nat) (ad' : Nat → Nat) (ids' : List Nat) (σ' υ' : HS), LI D cA ad' ids' adm n' σ' υ' → V p l e room_1 s m #[Value.ref b] below meth c 4 A (D, cA, ad', ids', wl (D, cA, adm, idM, []) mY υ') xY (C + 18) (S + 90) Q σ' 1176 [(0, .ref b), (1, .ref (ad' 0)), (2, .ref (adm 0)), (3, .int i0)] []) : V p l e room_1 s m #[Value.ref b] below meth c 4 A (D, cA, ad, ids, wl (D, cA, adm, idM, []) mY υ) xY C S Q σ 756 [(0, .ref b), (1, .ref (ad 0)), (2, .ref (adm 0)), (3, .int i0)] [] := by
  obtain ⟨hR, hids, hwm⟩ := hI
  have hG : GX (D, cA, ad, ids, wl (D, cA, adm, idM, []) mY υ) xY := GX_xS (RelE_8 hR).1 hids
  have hO : Ob (D, cA, ad, ids, wl (D, cA, adm, idM, []) mY υ) xY 0 7 := ⟨(hids 0).mpr (Or.inl (by decide)), rfl⟩
  obtain ⟨r, σ', υ', e1, e2, hR'⟩ := Op_draws (xs (i0 + 1).toNatClampNeg) hR
  refine v_aload_n hCx dL_law_756 1 rfl ?_
  refine v_aload_n hCx dL_law_757 0 rfl ?_
  refine v_iload_n hCx dL_law_758 3 rfl ?_
  refine v_iconst (v := 1) hCx dL_law_759 (by decide) ?_
  refine v_iadd hCx dL_law_760 ?_
  refine v_sld hCx hX hbl hbA h1 dL_law_761 ?_
  refine v_callVI (G := (D, cA, ad, ids, wl (D, cA, adm, idM, []) mY υ)) hCx xE_ok (n := 1) (As := [.int (xs (i0 + 1).toNatClampNeg)]) (k_X8_draws l hG hO e1) (cwV 1 hCx.1.2.2.2.2 gL_law_X8_draws rfl rfl rfl (by decide +kernel) ⟨(Nat.le_of_ble_eq_true rfl), (Nat.le_of_ble_eq_true rfl)⟩) hO (by decide) rfl rfl rfl (Nat.le_of_ble_eq_true rfl) ⟨by show C ≤ 616682; omega, by show S ≤ 7252203; omega⟩ dL_law_762 rfl ?_
  refine v_wt (fun hwx => ?_)
  refine V.swap hwm ?_
  refine v_aload_n hCm dL_law_765 2 rfl ?_
  refine v_aload_n hCm dL_law_766 0 rfl ?_
  refine v_iload_n hCm dL_law_767 3 rfl ?_
  refine v_iconst (v := 1) hCm dL_law_768 (by decide) ?_
  refine v_iadd hCm dL_law_769 ?_
  refine v_sld hCm hX hbl hbA h1 dL_law_770 ?_
  have hGm : GX (D, cA, adm, idM, wl (D, cA, ad, ids, []) xY σ') mY := GX_idM rfl
  have hOm : Ob (D, cA, adm, idM, wl (D, cA, ad, ids, []) xY σ') mY 0 8 := ⟨(by decide : 0 ∈ idM), rfl⟩
  refine v_callVI (G := (D, cA, adm, idM, wl (D, cA, ad, ids, []) xY σ')) hCm mE_ok (n := 1) (As := [.int (xs (i0 + 1).toNatClampNeg)]) (k_X9_draws l hGm hOm e2) (cwV 1 hCm.1.2.2.2.2 gL_law_X9_draws rfl rfl rfl (by decide +kernel) ⟨(Nat.le_of_ble_eq_true rfl), (Nat.le_of_ble_eq_true rfl)⟩) hOm (by decide) rfl rfl rfl (Nat.le_of_ble_eq_true rfl) ⟨by show C ≤ 616682; omega, by show S ≤ 7252203; omega⟩ dL_law_771 rfl ?_
  refine v_wt (fun hwm2 => ?_)
  refine V.swap (wt_ex hwx) ?_
  refine v_icmp_eq (tgt := 1176) hCx dL_law_774 (by decide) (fun _ => ?_) (fun h => absurd rfl h)
  exact V.widen (by omega) (by omega) (kk n0 ad ids σ' υ' ⟨hR', hids, wt_ex hwm2⟩)
set_option maxHeartbeats 4000000 in
set_option maxRecDepth 100000 in
theorem lw_case20 {adK adV : Nat → Nat} {tb : Nat} {p : Program} {l : Launch} {e : Env} {s : State} {m : MethodId} {below : List Frame} {meth : Method} {c : Code} {A : Nat → Prop} {D : va_G} {cA : Nat → ClassId} {ad adm : Nat → Nat} {ids : List Nat} {b N n0 C S : Nat} {xs : Nat → Int32} {σ υ : HS} {Q : State → Prop} {i0 : Int32} (hX : va_X b N xs s s.heap) (hbl : b < s.heap.size) (hbA : ¬ A b) (hCx : Cx (xE adK adV tb) D cA xY code 4 ret RL wsL_law p s m #[Value.ref b] meth c A) (hCm : Cx mE D cA mY code 4 ret RL wsL_law p s m #[Value.ref b] meth c A) (hI : LI D cA ad ids adm n0 σ υ) (h1 : vp_in (i0 + 1) N) (h2 : vp_in (i0 + 2) N) (h3 : vp_in (i0 + 3) N) (h4 : vp_in (i0 + 4) N) (h5 : vp_in (i0 + 5) N) (hb : C + 18 ≤ 616682 ∧ S + 90 ≤ 7252203) (kk : ∀ (n' : Nat) (ad' : Nat → Nat) (ids' : List Nat) (σ' υ' : HS), LI D cA ad' ids' adm n' σ' υ' → V p l e room_1 s m #[Value.ref b] below meth c 4 A (D, cA, ad', ids', wl (D, cA, adm, idM, []) mY υ') xY (C + 18) (S + 90) Q σ' 1176 [(0, .ref b), (1, .ref (ad' 0)), (2, .ref (adm 0)), (3, .int i0)] []) : V p l e room_1 s m #[Value.ref b] below meth c 4 A (D, cA, ad, ids, wl (D, cA, adm, idM, []) mY υ) xY C S Q σ 779 [(0, .ref b), (1, .ref (ad 0)), (2, .ref (adm 0)), (3, .int i0)] [] := by
  obtain ⟨hR, hids, hwm⟩ := hI
  have hG : GX (D, cA, ad, ids, wl (D, cA, adm, idM, []) mY υ) xY := GX_xS (RelE_8 hR).1 hids
  have hO : Ob (D, cA, ad, ids, wl (D, cA, adm, idM, []) mY υ) xY 0 7 := ⟨(hids 0).mpr (Or.inl (by decide)), rfl⟩
  obtain ⟨r, σ', υ', e1, e2, hR'⟩ := Op_costs (xs (i0 + 1).toNatClampNeg) hR
  refine v_aload_n hCx dL_law_779 1 rfl ?_
  refine v_aload_n hCx dL_law_780 0 rfl ?_
  refine v_iload_n hCx dL_law_781 3 rfl ?_
  refine v_iconst (v := 1) hCx dL_law_782 (by decide) ?_
  refine v_iadd hCx dL_law_783 ?_
  refine v_sld hCx hX hbl hbA h1 dL_law_784 ?_
  refine v_callVJ (G := (D, cA, ad, ids, wl (D, cA, adm, idM, []) mY υ)) hCx xE_ok (n := 1) (As := [.int (xs (i0 + 1).toNatClampNeg)]) (k_X8_costs l hG hO e1) (cwV 1 hCx.1.2.2.2.2 gL_law_X8_costs rfl rfl rfl (by decide +kernel) ⟨(Nat.le_of_ble_eq_true rfl), (Nat.le_of_ble_eq_true rfl)⟩) hO (by decide) rfl rfl rfl (Nat.le_of_ble_eq_true rfl) ⟨by show C ≤ 616682; omega, by show S ≤ 7252203; omega⟩ dL_law_785 rfl ?_
  refine v_wt (fun hwx => ?_)
  refine V.swap hwm ?_
  refine v_aload_n hCm dL_law_788 2 rfl ?_
  refine v_aload_n hCm dL_law_789 0 rfl ?_
  refine v_iload_n hCm dL_law_790 3 rfl ?_
  refine v_iconst (v := 1) hCm dL_law_791 (by decide) ?_
  refine v_iadd hCm dL_law_792 ?_
  refine v_sld hCm hX hbl hbA h1 dL_law_793 ?_
  have hGm : GX (D, cA, adm, idM, wl (D, cA, ad, ids, []) xY σ') mY := GX_idM rfl
  have hOm : Ob (D, cA, adm, idM, wl (D, cA, ad, ids, []) xY σ') mY 0 8 := ⟨(by decide : 0 ∈ idM), rfl⟩
  refine v_callVJ (G := (D, cA, adm, idM, wl (D, cA, ad, ids, []) xY σ')) hCm mE_ok (n := 1) (As := [.int (xs (i0 + 1).toNatClampNeg)]) (k_X9_costs l hGm hOm e2) (cwV 1 hCm.1.2.2.2.2 gL_law_X9_costs rfl rfl rfl (by decide +kernel) ⟨(Nat.le_of_ble_eq_true rfl), (Nat.le_of_ble_eq_true rfl)⟩) hOm (by decide) rfl rfl rfl (Nat.le_of_ble_eq_true rfl) ⟨by show C ≤ 616682; omega, by show S ≤ 7252203; omega⟩ dL_law_794 rfl ?_
  refine v_wt (fun hwm2 => ?_)
  refine V.swap (wt_ex hwx) ?_
  refine v_lcmp hCx dL_law_797 ?_
  refine v_if_eq (tgt := 1176) hCx dL_law_798 (by decide) (fun _ => ?_) (fun h => absurd ((lg_cmp_eq _ _).mpr rfl) h)
  exact V.widen (by omega) (by omega) (kk n0 ad ids σ' υ' ⟨hR', hids, wt_ex hwm2⟩)
set_option maxHeartbeats 4000000 in
set_option maxRecDepth 100000 in
theorem lw_case21 {adK adV : Nat → Nat} {tb : Nat} {p : Program} {l : Launch} {e : Env} {s : State} {m : MethodId} {below : List Frame} {meth : Method} {c : Code} {A : Nat → Prop} {D : va_G} {cA : Nat → ClassId} {ad adm : Nat → Nat} {ids : List Nat} {b N n0 C S : Nat} {xs : Nat → Int32} {σ υ : HS} {Q : State → Prop} {i0 : Int32} (hX : va_X b N xs s s.heap) (hbl : b < s.heap.size) (hbA : ¬ A b) (hCx : Cx (xE adK adV tb) D cA xY code 4 ret RL wsL_law p s m #[Value.ref b] meth c A) (hCm : Cx mE D cA mY code 4 ret RL wsL_law p s m #[Value.ref b] meth c A) (hI : LI D cA ad ids adm n0 σ υ) (h1 : vp_in (i0 + 1) N) (h2 : vp_in (i0 + 2) N) (h3 : vp_in (i0 + 3) N) (h4 : vp_in (i0 + 4) N) (h5 : vp_in (i0 + 5) N) (hb : C + 18 ≤ 616682 ∧ S + 90 ≤ 7252203) (kk : ∀ (n' : Nat) (ad' : Nat → Nat) (ids' : List Nat) (σ' υ' : HS), LI D cA ad' ids' adm n' σ' υ' → V p l e room_1 s m #[Value.ref b] below meth c 4 A (D, cA, ad', ids', wl (D, cA, adm, idM, []) mY υ') xY (C + 18) (S + 90) Q σ' 1176 [(0, .ref b), (1, .ref (ad' 0)), (2, .ref (adm 0)), (3, .int i0)] []) : V p l e room_1 s m #[Value.ref b] below meth c 4 A (D, cA, ad, ids, wl (D, cA, adm, idM, []) mY υ) xY C S Q σ 803 [(0, .ref b), (1, .ref (ad 0)), (2, .ref (adm 0)), (3, .int i0)] [] := by
  obtain ⟨hR, hids, hwm⟩ := hI
  have hG : GX (D, cA, ad, ids, wl (D, cA, adm, idM, []) mY υ) xY := GX_xS (RelE_8 hR).1 hids
  have hO : Ob (D, cA, ad, ids, wl (D, cA, adm, idM, []) mY υ) xY 0 7 := ⟨(hids 0).mpr (Or.inl (by decide)), rfl⟩
  obtain ⟨r, σ', υ', e1, e2, hR'⟩ := Op_help (xs (i0 + 1).toNatClampNeg) hR
  refine v_aload_n hCx dL_law_803 1 rfl ?_
  refine v_aload_n hCx dL_law_804 0 rfl ?_
  refine v_iload_n hCx dL_law_805 3 rfl ?_
  refine v_iconst (v := 1) hCx dL_law_806 (by decide) ?_
  refine v_iadd hCx dL_law_807 ?_
  refine v_sld hCx hX hbl hbA h1 dL_law_808 ?_
  refine v_callVI (G := (D, cA, ad, ids, wl (D, cA, adm, idM, []) mY υ)) hCx xE_ok (n := 1) (As := [.int (xs (i0 + 1).toNatClampNeg)]) (k_X8_help l hG hO e1) (cwV 1 hCx.1.2.2.2.2 gL_law_X8_help rfl rfl rfl (by decide +kernel) ⟨(Nat.le_of_ble_eq_true rfl), (Nat.le_of_ble_eq_true rfl)⟩) hO (by decide) rfl rfl rfl (Nat.le_of_ble_eq_true rfl) ⟨by show C ≤ 616682; omega, by show S ≤ 7252203; omega⟩ dL_law_809 rfl ?_
  refine v_wt (fun hwx => ?_)
  refine V.swap hwm ?_
  refine v_aload_n hCm dL_law_812 2 rfl ?_
  refine v_aload_n hCm dL_law_813 0 rfl ?_
  refine v_iload_n hCm dL_law_814 3 rfl ?_
  refine v_iconst (v := 1) hCm dL_law_815 (by decide) ?_
  refine v_iadd hCm dL_law_816 ?_
  refine v_sld hCm hX hbl hbA h1 dL_law_817 ?_
  have hGm : GX (D, cA, adm, idM, wl (D, cA, ad, ids, []) xY σ') mY := GX_idM rfl
  have hOm : Ob (D, cA, adm, idM, wl (D, cA, ad, ids, []) xY σ') mY 0 8 := ⟨(by decide : 0 ∈ idM), rfl⟩
  refine v_callVI (G := (D, cA, adm, idM, wl (D, cA, ad, ids, []) xY σ')) hCm mE_ok (n := 1) (As := [.int (xs (i0 + 1).toNatClampNeg)]) (k_X9_help l hGm hOm e2) (cwV 1 hCm.1.2.2.2.2 gL_law_X9_help rfl rfl rfl (by decide +kernel) ⟨(Nat.le_of_ble_eq_true rfl), (Nat.le_of_ble_eq_true rfl)⟩) hOm (by decide) rfl rfl rfl (Nat.le_of_ble_eq_true rfl) ⟨by show C ≤ 616682; omega, by show S ≤ 7252203; omega⟩ dL_law_818 rfl ?_
  refine v_wt (fun hwm2 => ?_)
  refine V.swap (wt_ex hwx) ?_
  refine v_icmp_eq (tgt := 1176) hCx dL_law_821 (by decide) (fun _ => ?_) (fun h => absurd rfl h)
  exact V.widen (by omega) (by omega) (kk n0 ad ids σ' υ' ⟨hR', hids, wt_ex hwm2⟩)
set_option maxHeartbeats 4000000 in
set_option maxRecDepth 100000 in
theorem lw_case22 {adK adV : Nat → Nat} {tb : Nat} {p : Program} {l : Launch} {e : Env} {s : State} {m : MethodId} {below : List Frame} {meth : Method} {c : Code} {A : Nat → Prop} {D : va_G} {cA : Nat → ClassId} {ad adm : Nat → Nat} {ids : List Nat} {b N n0 C S : Nat} {xs : Nat → Int32} {σ υ : HS} {Q : State → Prop} {i0 : Int32} (hX : va_X b N xs s s.heap) (hbl : b < s.heap.size) (hbA : ¬ A b) (hCx : Cx (xE adK adV tb) D cA xY code 4 ret RL wsL_law p s m #[Value.ref b] meth c A) (hCm : Cx mE D cA mY code 4 ret RL wsL_law p s m #[Value.ref b] meth c A) (hI : LI D cA ad ids adm n0 σ υ) (h1 : vp_in (i0 + 1) N) (h2 : vp_in (i0 + 2) N) (h3 : vp_in (i0 + 3) N) (h4 : vp_in (i0 + 4) N) (h5 : vp_in (i0 + 5) N) (hb : C + 18 ≤ 616682 ∧ S + 90 ≤ 7252203) (kk : ∀ (n' : Nat) (ad' : Nat → Nat) (ids' : List Nat) (σ' υ' : HS), LI D cA ad' ids' adm n' σ' υ' → V p l e room_1 s m #[Value.ref b] below meth c 4 A (D, cA, ad', ids', wl (D, cA, adm, idM, []) mY υ') xY (C + 18) (S + 90) Q σ' 1176 [(0, .ref b), (1, .ref (ad' 0)), (2, .ref (adm 0)), (3, .int i0)] []) : V p l e room_1 s m #[Value.ref b] below meth c 4 A (D, cA, ad, ids, wl (D, cA, adm, idM, []) mY υ) xY C S Q σ 826 [(0, .ref b), (1, .ref (ad 0)), (2, .ref (adm 0)), (3, .int i0)] [] := by
  obtain ⟨hR, hids, hwm⟩ := hI
  have hG : GX (D, cA, ad, ids, wl (D, cA, adm, idM, []) mY υ) xY := GX_xS (RelE_8 hR).1 hids
  have hO : Ob (D, cA, ad, ids, wl (D, cA, adm, idM, []) mY υ) xY 0 7 := ⟨(hids 0).mpr (Or.inl (by decide)), rfl⟩
  obtain ⟨r, σ', υ', e1, e2, hR'⟩ := Op_enough (xs (i0 + 1).toNatClampNeg) (xs (i0 + 2).toNatClampNeg) hR
  refine v_aload_n hCx dL_law_826 1 rfl ?_
  refine v_aload_n hCx dL_law_827 0 rfl ?_
  refine v_iload_n hCx dL_law_828 3 rfl ?_
  refine v_iconst (v := 1) hCx dL_law_829 (by decide) ?_
  refine v_iadd hCx dL_law_830 ?_
  refine v_sld hCx hX hbl hbA h1 dL_law_831 ?_
  refine v_aload_n hCx dL_law_832 0 rfl ?_
  refine v_iload_n hCx dL_law_833 3 rfl ?_
  refine v_iconst (v := 2) hCx dL_law_834 (by decide) ?_
  refine v_iadd hCx dL_law_835 ?_
  refine v_sld hCx hX hbl hbA h2 dL_law_836 ?_
  refine v_callVI (G := (D, cA, ad, ids, wl (D, cA, adm, idM, []) mY υ)) hCx xE_ok (n := 2) (As := [.int (xs (i0 + 1).toNatClampNeg), .int (xs (i0 + 2).toNatClampNeg)]) (k_X8_enough l hG hO e1) (cwV 2 hCx.1.2.2.2.2 gL_law_X8_enough rfl rfl rfl (by decide +kernel) ⟨(Nat.le_of_ble_eq_true rfl), (Nat.le_of_ble_eq_true rfl)⟩) hO (by decide) rfl rfl rfl (Nat.le_of_ble_eq_true rfl) ⟨by show C ≤ 616682; omega, by show S ≤ 7252203; omega⟩ dL_law_837 rfl ?_
  refine v_wt (fun hwx => ?_)
  refine V.swap hwm ?_
  refine v_aload_n hCm dL_law_840 2 rfl ?_
  refine v_aload_n hCm dL_law_841 0 rfl ?_
  refine v_iload_n hCm dL_law_842 3 rfl ?_
  refine v_iconst (v := 1) hCm dL_law_843 (by decide) ?_
  refine v_iadd hCm dL_law_844 ?_
  refine v_sld hCm hX hbl hbA h1 dL_law_845 ?_
  refine v_aload_n hCm dL_law_846 0 rfl ?_
  refine v_iload_n hCm dL_law_847 3 rfl ?_
  refine v_iconst (v := 2) hCm dL_law_848 (by decide) ?_
  refine v_iadd hCm dL_law_849 ?_
  refine v_sld hCm hX hbl hbA h2 dL_law_850 ?_
  have hGm : GX (D, cA, adm, idM, wl (D, cA, ad, ids, []) xY σ') mY := GX_idM rfl
  have hOm : Ob (D, cA, adm, idM, wl (D, cA, ad, ids, []) xY σ') mY 0 8 := ⟨(by decide : 0 ∈ idM), rfl⟩
  refine v_callVI (G := (D, cA, adm, idM, wl (D, cA, ad, ids, []) xY σ')) hCm mE_ok (n := 2) (As := [.int (xs (i0 + 1).toNatClampNeg), .int (xs (i0 + 2).toNatClampNeg)]) (k_X9_enough l hGm hOm e2) (cwV 2 hCm.1.2.2.2.2 gL_law_X9_enough rfl rfl rfl (by decide +kernel) ⟨(Nat.le_of_ble_eq_true rfl), (Nat.le_of_ble_eq_true rfl)⟩) hOm (by decide) rfl rfl rfl (Nat.le_of_ble_eq_true rfl) ⟨by show C ≤ 616682; omega, by show S ≤ 7252203; omega⟩ dL_law_851 rfl ?_
  refine v_wt (fun hwm2 => ?_)
  refine V.swap (wt_ex hwx) ?_
  refine v_icmp_eq (tgt := 1176) hCx dL_law_854 (by decide) (fun _ => ?_) (fun h => absurd rfl h)
  exact V.widen (by omega) (by omega) (kk n0 ad ids σ' υ' ⟨hR', hids, wt_ex hwm2⟩)
set_option maxHeartbeats 4000000 in
set_option maxRecDepth 100000 in
theorem lw_case23 {adK adV : Nat → Nat} {tb : Nat} {p : Program} {l : Launch} {e : Env} {s : State} {m : MethodId} {below : List Frame} {meth : Method} {c : Code} {A : Nat → Prop} {D : va_G} {cA : Nat → ClassId} {ad adm : Nat → Nat} {ids : List Nat} {b N n0 C S : Nat} {xs : Nat → Int32} {σ υ : HS} {Q : State → Prop} {i0 : Int32} (hX : va_X b N xs s s.heap) (hbl : b < s.heap.size) (hbA : ¬ A b) (hCx : Cx (xE adK adV tb) D cA xY code 4 ret RL wsL_law p s m #[Value.ref b] meth c A) (hCm : Cx mE D cA mY code 4 ret RL wsL_law p s m #[Value.ref b] meth c A) (hI : LI D cA ad ids adm n0 σ υ) (h1 : vp_in (i0 + 1) N) (h2 : vp_in (i0 + 2) N) (h3 : vp_in (i0 + 3) N) (h4 : vp_in (i0 + 4) N) (h5 : vp_in (i0 + 5) N) (hb : C + 18 ≤ 616682 ∧ S + 90 ≤ 7252203) (kk : ∀ (n' : Nat) (ad' : Nat → Nat) (ids' : List Nat) (σ' υ' : HS), LI D cA ad' ids' adm n' σ' υ' → V p l e room_1 s m #[Value.ref b] below meth c 4 A (D, cA, ad', ids', wl (D, cA, adm, idM, []) mY υ') xY (C + 18) (S + 90) Q σ' 1176 [(0, .ref b), (1, .ref (ad' 0)), (2, .ref (adm 0)), (3, .int i0)] []) : V p l e room_1 s m #[Value.ref b] below meth c 4 A (D, cA, ad, ids, wl (D, cA, adm, idM, []) mY υ) xY C S Q σ 859 [(0, .ref b), (1, .ref (ad 0)), (2, .ref (adm 0)), (3, .int i0)] [] := by
  obtain ⟨hR, hids, hwm⟩ := hI
  have hG : GX (D, cA, ad, ids, wl (D, cA, adm, idM, []) mY υ) xY := GX_xS (RelE_8 hR).1 hids
  have hO : Ob (D, cA, ad, ids, wl (D, cA, adm, idM, []) mY υ) xY 0 7 := ⟨(hids 0).mpr (Or.inl (by decide)), rfl⟩
  obtain ⟨r, σ', υ', e1, e2, hR'⟩ := Op_order (xs (i0 + 1).toNatClampNeg) (xs (i0 + 2).toNatClampNeg) hR
  refine v_aload_n hCx dL_law_859 1 rfl ?_
  refine v_aload_n hCx dL_law_860 0 rfl ?_
  refine v_iload_n hCx dL_law_861 3 rfl ?_
  refine v_iconst (v := 1) hCx dL_law_862 (by decide) ?_
  refine v_iadd hCx dL_law_863 ?_
  refine v_sld hCx hX hbl hbA h1 dL_law_864 ?_
  refine v_aload_n hCx dL_law_865 0 rfl ?_
  refine v_iload_n hCx dL_law_866 3 rfl ?_
  refine v_iconst (v := 2) hCx dL_law_867 (by decide) ?_
  refine v_iadd hCx dL_law_868 ?_
  refine v_sld hCx hX hbl hbA h2 dL_law_869 ?_
  refine v_callVI (G := (D, cA, ad, ids, wl (D, cA, adm, idM, []) mY υ)) hCx xE_ok (n := 2) (As := [.int (xs (i0 + 1).toNatClampNeg), .int (xs (i0 + 2).toNatClampNeg)]) (k_X8_order l hG hO e1) (cwV 2 hCx.1.2.2.2.2 gL_law_X8_order rfl rfl rfl (by decide +kernel) ⟨(Nat.le_of_ble_eq_true rfl), (Nat.le_of_ble_eq_true rfl)⟩) hO (by decide) rfl rfl rfl (Nat.le_of_ble_eq_true rfl) ⟨by show C ≤ 616682; omega, by show S ≤ 7252203; omega⟩ dL_law_870 rfl ?_
  refine v_wt (fun hwx => ?_)
  refine V.swap hwm ?_
  refine v_aload_n hCm dL_law_873 2 rfl ?_
  refine v_aload_n hCm dL_law_874 0 rfl ?_
  refine v_iload_n hCm dL_law_875 3 rfl ?_
  refine v_iconst (v := 1) hCm dL_law_876 (by decide) ?_
  refine v_iadd hCm dL_law_877 ?_
  refine v_sld hCm hX hbl hbA h1 dL_law_878 ?_
  refine v_aload_n hCm dL_law_879 0 rfl ?_
  refine v_iload_n hCm dL_law_880 3 rfl ?_
  refine v_iconst (v := 2) hCm dL_law_881 (by decide) ?_
  refine v_iadd hCm dL_law_882 ?_
  refine v_sld hCm hX hbl hbA h2 dL_law_883 ?_
  have hGm : GX (D, cA, adm, idM, wl (D, cA, ad, ids, []) xY σ') mY := GX_idM rfl
  have hOm : Ob (D, cA, adm, idM, wl (D, cA, ad, ids, []) xY σ') mY 0 8 := ⟨(by decide : 0 ∈ idM), rfl⟩
  refine v_callVI (G := (D, cA, adm, idM, wl (D, cA, ad, ids, []) xY σ')) hCm mE_ok (n := 2) (As := [.int (xs (i0 + 1).toNatClampNeg), .int (xs (i0 + 2).toNatClampNeg)]) (k_X9_order l hGm hOm e2) (cwV 2 hCm.1.2.2.2.2 gL_law_X9_order rfl rfl rfl (by decide +kernel) ⟨(Nat.le_of_ble_eq_true rfl), (Nat.le_of_ble_eq_true rfl)⟩) hOm (by decide) rfl rfl rfl (Nat.le_of_ble_eq_true rfl) ⟨by show C ≤ 616682; omega, by show S ≤ 7252203; omega⟩ dL_law_884 rfl ?_
  refine v_wt (fun hwm2 => ?_)
  refine V.swap (wt_ex hwx) ?_
  refine v_icmp_eq (tgt := 1176) hCx dL_law_887 (by decide) (fun _ => ?_) (fun h => absurd rfl h)
  exact V.widen (by omega) (by omega) (kk n0 ad ids σ' υ' ⟨hR', hids, wt_ex hwm2⟩)
