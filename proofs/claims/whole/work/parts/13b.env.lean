/-! THE LAW'S ENTRY: out of the words -/
theorem law_env {s : State} {b : Nat} (hts : ∀ w ∈ lw_tbl, w.before #[Value.ref b] s = true) (hgv : (Cond.and given_1 narrow_1).before #[Value.ref b] s = true) : ∃ (adK adV : Nat → Nat) (tb : Nat), xE adK adV tb (lwA s) s s.heap := by
  have hs : ∀ w ∈ gvL, w.before #[Value.ref b] s = true := flat_of_before _ hgv
  obtain ⟨adK, adV, hS, hE⟩ := vk_Sof (args := #[Value.ref b]) (s := s) (N := 13) (tm := xTm) (len := xLen) (byt := xByt) (A := lwA s) (by decide) (fun i hi => hs _ (gv_hex i hi)) (fun i hi => hs _ (gv_hco i hi)) (fun i hi => hs _ (gv_har i hi)) (fun i hi => hs _ (gv_hle i hi)) (fun i hi j hj => hs _ (gv_hel i hi j hj)) (fun i j hi hj hij => (gv_hne i hi j hj hij).elim (fun h => Or.inl (hs _ h)) (fun h => Or.inr (hs _ h))) lwA_out
  obtain ⟨tb, ht, hT⟩ := va_Tof (args := #[Value.ref b]) (s := s) (tm := .static RX1 "ABOVE" "[I") (ty := .int) (N := 6) (f := fun j => .int (tabF j)) (A := lwA s) (by decide) (hs _ gv_o.1) (va_eqt (hs _ gv_o.2)) (fun j hj => va_eqt (hs _ (gv_tab j hj))) lwA_out
  exact ⟨adK, adV, tb, ⟨fun w hw => va_Nw.of (tb_nw w hw).2 (hts w (tb_nw w hw).1), fun q hq => va_Nw.of rfl (hts _ (tb_nm q hq))⟩, ⟨va_Zref (hts _ tb_st.1.1) (hts _ tb_st.1.2) ht lwA_out, hT⟩, ⟨hS, fun i hi => vk_R.of (hts _ (tb_str i hi)) (hE i hi)⟩, va_Zof (hts _ tb_st.2.1.1) (hts _ tb_st.2.1.2) (va_eqt (hs _ gv_st.1)) lwA_out, va_Zqof (hts _ tb_st.2.2.1) (hts _ tb_st.2.2.2) (hs _ gv_st.2) lwA_out, va_AO.of (hts _ tb_ao.1.1), va_AO.of (hts _ tb_ao.1.2.1), va_AO.of (hts _ tb_ao.1.2.2)⟩
theorem law_K {s : State} {b : Nat} (hts : ∀ w ∈ lw_tbl, w.before #[Value.ref b] s = true) : ∃ (D : va_G) (cA : Nat → ClassId), va_K D vwCl (xY.2.2.map fun q => (cA q.1, q.2)) s ∧ va_K D vwCl (mY.2.2.map fun q => (cA q.1, q.2)) s := by
  obtain ⟨c0, i0, k0⟩ := u_known (C := RX0) (T := TX0) (N := 5) (n := 5) hts inX0 (hts _ tb_in.1.1)
  obtain ⟨c1, i1, k1⟩ := u_known (C := RX1) (T := TX1) (N := 3) (n := 3) hts inX1 (hts _ tb_in.1.2.1)
  obtain ⟨c2, i2, k2⟩ := u_known (C := RX2) (T := TX2) (N := 5) (n := 5) hts inX2 (hts _ tb_in.1.2.2.1)
  obtain ⟨c3, i3, k3⟩ := u_known (C := RX3) (T := TX3) (N := 3) (n := 3) hts inX3 (hts _ tb_in.1.2.2.2.1)
  obtain ⟨c4, i4, k4⟩ := u_known (C := RX4) (T := TX4) (N := 7) (n := 7) hts inX4 (hts _ tb_in.1.2.2.2.2)
  obtain ⟨c5, i5, k5⟩ := u_known (C := RX5) (T := TX5) (N := 2) (n := 2) hts inX5 (hts _ tb_in.2.1)
  obtain ⟨c6, i6, k6⟩ := u_known (C := RX6) (T := TX6) (N := 5) (n := 5) hts inX6 (hts _ tb_in.2.2.1)
  obtain ⟨c7, i7, k7⟩ := u_known (C := RX8) (T := TX8) (N := 20) (n := 20) hts inX8 (hts _ tb_in.2.2.2.1)
  obtain ⟨c8, i8, k8⟩ := u_known (C := RX9) (T := TX9) (N := 45) (n := 45) hts inX9 (hts _ tb_in.2.2.2.2)
  obtain ⟨a9, K9, p9, f9, g9, h9⟩ := Cond.arrayClass_spec (hts _ tb_ao.2.1)
  obtain ⟨a10, K10, p10, f10, g10, h10⟩ := Cond.arrayClass_spec (hts _ tb_ao.2.2.1)
  obtain ⟨a11, K11, p11, f11, g11, h11⟩ := Cond.arrayClass_spec (hts _ tb_ao.2.2.2)
  obtain ⟨p12, a12, K12, e12, _, g12, h12, f12⟩ := Cond.arrayOver_spec (hts _ tb_ao.1.1)
  obtain ⟨p14, a14, K14, e14, _, g14, h14, f14⟩ := Cond.arrayOver_spec (hts _ tb_ao.1.2.1)
  obtain ⟨p13, a13, K13, e13, _, g13, h13, f13⟩ := Cond.arrayOver_spec (hts _ tb_ao.1.2.2)
  have hKc : ∀ (c : Nat) (q : vw_C), vwCl[c]? = some q → u_Kn s q.1 q.2.1 q.2.2 ((fun k => match k with | 0 => c0 | 1 => c1 | 2 => c2 | 3 => c3 | 4 => c4 | 5 => c5 | 6 => c6 | 7 => c7 | _ => c8 : Nat → ClassId) c) ((fun k => match k with | 0 => i0 | 1 => i1 | 2 => i2 | 3 => i3 | 4 => i4 | 5 => i5 | 6 => i6 | 7 => i7 | _ => i8 : Nat → Nat → Nat) c) := by
    intro k q hq
    match k, hq with
    | 0, hq => cases hq; exact k0
    | 1, hq => cases hq; exact k1
    | 2, hq => cases hq; exact k2
    | 3, hq => cases hq; exact k3
    | 4, hq => cases hq; exact k4
    | 5, hq => cases hq; exact k5
    | 6, hq => cases hq; exact k6
    | 7, hq => cases hq; exact k7
    | 8, hq => cases hq; exact k8
    | k + 9, hq => simp at hq
  refine ⟨((fun k => match k with | 0 => c0 | 1 => c1 | 2 => c2 | 3 => c3 | 4 => c4 | 5 => c5 | 6 => c6 | 7 => c7 | _ => c8), (fun k => match k with | 0 => i0 | 1 => i1 | 2 => i2 | 3 => i3 | 4 => i4 | 5 => i5 | 6 => i6 | 7 => i7 | _ => i8)), (fun k => match k with | 9 => a9 | 10 => a10 | 11 => a11 | 12 => a12 | 13 => a13 | _ => a14), ⟨hKc, ?_⟩, ⟨hKc, ?_⟩⟩
  · intro k q hq
    match k, hq with
    | 0, hq => cases hq; exact ⟨fun N z => ⟨(fun k h => by cases h), K9, g9, p9, h9⟩, f9⟩
    | 1, hq => cases hq; exact ⟨fun N z => ⟨(fun k h => by cases h), K10, g10, p10, h10⟩, f10⟩
    | 2, hq => cases hq; exact ⟨fun N z => ⟨(fun k h => by cases h), K12, g12, p12, h12⟩, K12, p12, g12, h12, e12, f12⟩
    | 3, hq => cases hq; exact ⟨fun N z => ⟨(fun k h => by cases h), K13, g13, p13, h13⟩, K13, p13, g13, h13, e13, f13⟩
    | 4, hq => cases hq; exact ⟨fun N z => ⟨(fun k h => by cases h), K14, g14, p14, h14⟩, K14, p14, g14, h14, e14, f14⟩
    | k + 5, hq => simp [xY] at hq
  · intro k q hq
    match k, hq with
    | 0, hq => cases hq; exact ⟨fun N z => ⟨(fun k h => by cases h), K9, g9, p9, h9⟩, f9⟩
    | 1, hq => cases hq; exact ⟨fun N z => ⟨(fun k h => by cases h), K10, g10, p10, h10⟩, f10⟩
    | 2, hq => cases hq; exact ⟨fun N z => ⟨(fun k h => by cases h), K11, g11, p11, h11⟩, f11⟩
    | k + 3, hq => simp [mY] at hq
/-- a constructor's call: its one raw cell becomes a world, other cells beside it -/
theorem w_callN2 {EX : (Nat → Prop) → State → Heap → Prop} {p : Program} {l : Launch} {e : Env} {R : Room} {s : State} {m : MethodId} {args : Array Value} {below : List Frame} {meth : Method} {c : Code} {nL : Nat} {A : Nat → Prop} {cells slots : Nat} {Q : State → Prop} {pc : Nat} {L : List (Nat × Value)} {st : List Value} {cc : ByteArray} {ret : Option FieldType} {own : String} {Ts : List Cond} {D : va_G} {cA : Nat → ClassId} {ad : Nat → Nat} {U : Type} {Po : U → Prop} {Wl : U → va_W} {Wt : U → Prop} {Bo : Nat → U → State → Prop} {M : va_W} {h0 : Nat} {c0 : va_E} {YC : YD} {H : Heap} {locs : List Loc} {ls : Array Slot} (hC : Cx EX D cA YC cc nL ret own Ts p s m args meth c A) (hX : EXok EX) {index maxL mc ms : Nat} {y : MethodName} {bytes : ByteArray} {ws : List Cond} {rm : Room} (hM : ∀ sz : Nat, Met l y ws rm (va_Pc [.ref h0] (MPre EX (D, cA, ad, [], [(h0, c0)]) YC z0 sz)) (va_Qv Po (Bo sz) (wA (D, cA, ad, [], [(h0, c0)]) sz)) mc ms (wA (D, cA, ad, [], [(h0, c0)]) sz)) (cw : CallB R s args own index y bytes maxL none ws rm mc ms 0 ∧ y.name = "<init>" ∧ (Cond.instanceMethod y).before args s = true) (hst : (st.map fun v => v.category).sum ≤ 8) (hcs : cells + mc ≤ R.cells ∧ slots + ms ≤ R.slots) (hdg : decode cc pc = .ok (.invokespecial index, 3)) (hB : ∀ u t, Bo H.size u t → va_P D vwCl (Wl u) t.heap ∧ va_D (wA (D, cA, ad, [], [(h0, c0)]) H.size) (Wl u) ∧ Wt u) (hP : va_P D vwCl (M ++ [(h0, c0)]) H) (hD : va_D A (M ++ [(h0, c0)])) (hS : va_S A s.heap H locs) (hl : lv_has ls nL L) (kk : ∀ u H1 locs1, Po u → va_P D vwCl (M ++ Wl u) H1 → va_D A (M ++ Wl u) → Wt u → va_S A s.heap H1 locs1 → W p l e R s m args below meth c H1 locs1 (cells + mc) (slots + ms) Q (F0 m (pc + 3) ls st)) : W p l e R s m args below meth c H locs cells slots Q (F0 m pc ls (.ref h0 :: st)) := by
  have hP' := va_P_swap hP
  have hD' := va_D_swap hD
  have hW0 : wH (D, cA, ad, [], [(h0, c0)]) YC A z0 H := by
    have one : ∀ (k : Nat) (q : Nat × va_E), ([(h0, c0)] : va_W)[k]? = some q → ([(h0, c0)] ++ M)[k]? = some q := fun k q h => by rw [List.getElem?_append_left (List.getElem?_eq_some_iff.mp h).1]; exact h
    refine ⟨fun k q hq => hP' k q (one k q hq), ⟨fun i j a b hi hj e => hD'.1 i j a b (one i a hi) (one j b hj) e, fun k q hq => hD'.2 k q (one k q hq)⟩, fun i hi => absurd hi List.not_mem_nil⟩
  have hF := wA_in hW0 hS hC.2.2.2.2.1
  have hx := fr_out (D := D) (cA := cA) (ad := ad) (ids := []) (raw := [(h0, c0)]) hP' hD' (fun i hi => absurd hi List.not_mem_nil) (fun x hx => hx)
  refine va_callv (va_runI (As := []) (rest := st) hC.1 (hM H.size) cw ⟨pc_blind hX, pc_at hX hW0 hS hC.2.2.2.2.1 hC.2.2.2.1 hC.2.2.2.2.2⟩ rfl rfl hl.1 rfl (lv_room hst) hdg hcs) hS (fun q _ h => hF q h) hF (fun u t H1 locs1 ht hvm hw hBt hz hk hS1 => ?_)
  obtain ⟨b1, b2, b3⟩ := hB u t hBt
  rw [ht] at b1
  obtain ⟨f1, f2⟩ := fr_cells hP' hD' hF hx hk b1 b2
  exact kk u H1 locs1 hw (va_P_swap f1) (va_D_swap f2) b3 hS1
