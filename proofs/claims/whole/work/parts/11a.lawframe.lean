/-! THE LAW: two worlds in one heap -/
theorem ap_swap {α : Type} {a b : List α} {i : Nat} {q : α} (h : (b ++ a)[i]? = some q) : (a ++ b)[if i < b.length then a.length + i else i - b.length]? = some q := by
  by_cases c : i < b.length
  · rw [if_pos c]
    rw [List.getElem?_append_left c] at h
    rw [List.getElem?_append_right (by omega), Nat.add_sub_cancel_left]
    exact h
  · rw [if_neg c]
    rw [List.getElem?_append_right (by omega)] at h
    have hl := (List.getElem?_eq_some_iff.mp h).1
    rw [List.getElem?_append_left hl]
    exact h
theorem va_P_swap {D : va_G} {cl : List vw_C} {a b : va_W} {H : Heap} (h : va_P D cl (a ++ b) H) : va_P D cl (b ++ a) H := fun _ q hq => h _ q (ap_swap hq)
theorem va_D_swap {A : Nat → Prop} {a b : va_W} (h : va_D A (a ++ b)) : va_D A (b ++ a) := by
  refine ⟨fun i j p q hi hj e => ?_, fun k q hk => h.2 _ q (ap_swap hk)⟩
  have e1 := h.1 _ _ p q (ap_swap hi) (ap_swap hj) e
  have li := (List.getElem?_eq_some_iff.mp hi).1
  have lj := (List.getElem?_eq_some_iff.mp hj).1
  rw [List.length_append] at li lj
  split at e1 <;> split at e1 <;> omega
theorem wl_ex {D : va_G} {cA : Nat → ClassId} {ad : Nat → Nat} {ids : List Nat} {ex : va_W} {Y : YD} {σ : HS} : wl (D, cA, ad, ids, ex) Y σ = wl (D, cA, ad, ids, []) Y σ ++ ex := by
  show _ ++ ex = (_ ++ []) ++ ex
  rw [List.append_nil]
/-- cells beside a callee's stay as they are -/
theorem fr_cells {D : va_G} {cl : List vw_C} {A F : Nat → Prop} {M M1 ex : va_W} {H H1 : Heap} (hP : va_P D cl (M ++ ex) H) (hD : va_D A (M ++ ex)) (hF : ∀ q, F q → A q) (hx : ∀ (k : Nat) (q : Nat × va_E), ex[k]? = some q → ¬ F q.1) (hk : ∀ q : Nat, q < H.size → ¬ F q → H1[q]? = H[q]?) (hP1 : va_P D cl M1 H1) (hD1 : va_D F M1) : va_P D cl (M1 ++ ex) H1 ∧ va_D A (M1 ++ ex) := by
  have inE : ∀ {i : Nat} {q : Nat × va_E}, ex[i]? = some q → (M ++ ex)[M.length + i]? = some q := fun h => by
    rw [List.getElem?_append_right (by omega), Nat.add_sub_cancel_left]
    exact h
  have cs : ∀ {i : Nat} {q : Nat × va_E}, (M1 ++ ex)[i]? = some q → (i < M1.length ∧ M1[i]? = some q) ∨ (M1.length ≤ i ∧ ex[i - M1.length]? = some q) := by
    intro i q h
    by_cases c : i < M1.length
    · rw [List.getElem?_append_left c] at h
      exact Or.inl ⟨c, h⟩
    · rw [List.getElem?_append_right (by omega)] at h
      exact Or.inr ⟨by omega, h⟩
  refine ⟨fun i q h => ?_, fun i j p q hi hj e => ?_, fun i q h => ?_⟩
  · rcases cs h with ⟨_, h⟩ | ⟨_, h⟩
    · exact hP1 i q h
    · have h0 := hP _ q (inE h)
      exact h0.kept (hk q.1 h0.lt (hx _ q h))
  · rcases cs hi with ⟨a1, hi⟩ | ⟨a1, hi⟩ <;> rcases cs hj with ⟨a2, hj⟩ | ⟨a2, hj⟩
    · exact hD1.1 i j p q hi hj e
    · exact absurd (by rw [← e]; exact hD1.2 i p hi) (hx _ q hj)
    · exact absurd (by rw [e]; exact hD1.2 j q hj) (hx _ p hi)
    · have := hD.1 _ _ p q (inE hi) (inE hj) e
      omega
  · rcases cs h with ⟨_, h⟩ | ⟨_, h⟩
    · exact hF _ (hD1.2 i q h)
    · exact hD.2 _ q (inE h)
/-- what a callee's free cells are not: the cells beside its world -/
theorem fr_out {D : va_G} {cA : Nat → ClassId} {ad : Nat → Nat} {ids : List Nat} {M raw ex : va_W} {cl : List vw_C} {A : Nat → Prop} {H : Heap} (hP : va_P D cl (M ++ ex) H) (hD : va_D A (M ++ ex)) (hi : ∀ i, i ∈ ids → ∃ q : Nat × va_E, q ∈ M ∧ q.1 = ad i) (hr : ∀ x : Nat × va_E, x ∈ raw → x ∈ M) : ∀ (k : Nat) (q : Nat × va_E), ex[k]? = some q → ¬ wA (D, cA, ad, ids, raw) H.size q.1 := by
  intro k q h
  have inE : (M ++ ex)[M.length + k]? = some q := by
    rw [List.getElem?_append_right (by omega), Nat.add_sub_cancel_left]
    exact h
  have no : ∀ x : Nat × va_E, x ∈ M → x.1 = q.1 → False := by
    intro x hx e
    obtain ⟨n, hn⟩ := List.getElem?_of_mem hx
    have hl := (List.getElem?_eq_some_iff.mp hn).1
    have h2 : (M ++ ex)[n]? = some x := by rw [List.getElem?_append_left hl]; exact hn
    have := hD.1 _ _ x q h2 inE e
    omega
  rintro (⟨i, hm, e⟩ | ⟨x, hx, e⟩ | hz)
  · obtain ⟨x, hx, ex2⟩ := hi i hm
    exact no x hx (ex2.trans e.symm)
  · exact no x (hr x hx) e.symm
  · have := (hP _ q inE).lt
    omega
section VW
variable {EX : (Nat → Prop) → State → Heap → Prop} {p : Program} {l : Launch} {e : Env} {R : Room} {s : State} {m : MethodId} {args : Array Value} {below : List Frame} {meth : Method} {c : Code} {nL : Nat} {A : Nat → Prop} {cells slots : Nat} {Q : State → Prop} {σ τ υ : HS} {pc : Nat} {L : List (Nat × Value)} {st : List Value} {cc : ByteArray} {ret : Option FieldType} {own : String} {Ts : List Cond} {D : va_G} {cA : Nat → ClassId} {ad ad2 : Nat → Nat} {ids ids2 : List Nat} {Y Y2 : YD}
theorem V.swap (hw : wt (D, cA, ad2, ids2, []) Y2 υ) (k : V p l e R s m args below meth c nL A (D, cA, ad2, ids2, wl (D, cA, ad, ids, []) Y σ) Y2 cells slots Q υ pc L st) : V p l e R s m args below meth c nL A (D, cA, ad, ids, wl (D, cA, ad2, ids2, []) Y2 υ) Y cells slots Q σ pc L st := by
  intro H locs ls hW hS hl
  obtain ⟨h1, h2, _⟩ := hW
  have e1 := wl_ex (D := D) (cA := cA) (ad := ad) (ids := ids) (ex := wl (D, cA, ad2, ids2, []) Y2 υ) (Y := Y) (σ := σ)
  have e2 := wl_ex (D := D) (cA := cA) (ad := ad2) (ids := ids2) (ex := wl (D, cA, ad, ids, []) Y σ) (Y := Y2) (σ := υ)
  rw [e1] at h1 h2
  refine k H locs ls ⟨?_, ?_, hw⟩ hS hl
  · rw [e2]; exact va_P_swap h1
  · rw [e2]; exact va_D_swap h2
theorem v_sld {G : WD} (hC : Cx EX G.1 G.2.1 Y cc nL ret own Ts p s m args meth c A) {b N : Nat} {xs : Nat → Int32} (hX : va_X b N xs s s.heap) (hbl : b < s.heap.size) (hbA : ¬ A b) {i : Int32} (hin : vp_in i N) (hdg : decode cc pc = .ok (.iaload, 1)) (kk : V p l e R s m args below meth c nL A G Y cells slots Q σ (pc + 1) L (.int (xs i.toNatClampNeg) :: st)) : V p l e R s m args below meth c nL A G Y cells slots Q σ pc L (.int i :: .ref b :: st) :=
  fun H locs ls hW hS hl => va_sld hC.1.1 hC.1.2.1 hX hbl hbA hS hin hdg (kk H locs ls hW hS hl)
theorem v_slen {G : WD} (hC : Cx EX G.1 G.2.1 Y cc nL ret own Ts p s m args meth c A) {b N : Nat} {xs : Nat → Int32} (hX : va_X b N xs s s.heap) (hbl : b < s.heap.size) (hbA : ¬ A b) (hdg : decode cc pc = .ok (.arraylength, 1)) (kk : V p l e R s m args below meth c nL A G Y cells slots Q σ (pc + 1) L (.int (Int32.ofNat N) :: st)) : V p l e R s m args below meth c nL A G Y cells slots Q σ pc L (.ref b :: st) :=
  fun H locs ls hW hS hl => va_slen hC.1.1 hC.1.2.1 hX hbl hbA hS hdg (kk H locs ls hW hS hl)
/-- a method that makes plans, other cells beside its world -/
theorem v_callPX {ex : va_W} (hC : Cx EX D cA xY cc nL ret own Ts p s m args meth c A) (hX : EXok EX) {n index maxL mc ms : Nat} {y : MethodName} {bytes : ByteArray} {rt : Option FieldType} {ws : List Cond} {rm : Room} {As : List Value} {r0 : Int32} (hM : MPl EX l y ws rm (D, cA, ad, ids, []) (.ref (ad 0) :: As) σ r0 τ mc ms) (cw : CallW R s args own RX8 index y bytes maxL rt ws rm mc ms n) (hO : Ob (D, cA, ad, ids, []) xY 0 7) (hn : As.length = n) (hst : (st.map fun v => v.category).sum ≤ 8) (hcs : cells + mc ≤ R.cells ∧ slots + ms ≤ R.slots) (hdg : decode cc pc = .ok (.invokevirtual index, 3)) {st0 : List Value} (hs0 : st0 = As.reverse ++ .ref (ad 0) :: st) (kk : ∀ u : (Nat → Nat) × List Nat, PlQ (D, cA, ad, ids, []) r0 τ r0 u → V p l e R s m args below meth c nL A (D, cA, u.1, u.2, ex) xY (cells + mc) (slots + ms) Q τ (pc + 3) L (.int r0 :: st)) : V p l e R s m args below meth c nL A (D, cA, ad, ids, ex) xY cells slots Q σ pc L st0 := by
  intro H locs ls hW hS hl
  obtain ⟨hP, hD, hT⟩ := hW
  rw [wl_ex] at hP hD
  have hW0 : wH (D, cA, ad, ids, []) xY A σ H := by
    refine ⟨fun k q hq => hP k q ?_, ⟨fun i j a b hi hj e => hD.1 i j a b ?_ ?_ e, fun k q hq => hD.2 k q ?_⟩, hT⟩
    · rw [List.getElem?_append_left (List.getElem?_eq_some_iff.mp hq).1]; exact hq
    · rw [List.getElem?_append_left (List.getElem?_eq_some_iff.mp hi).1]; exact hi
    · rw [List.getElem?_append_left (List.getElem?_eq_some_iff.mp hj).1]; exact hj
    · rw [List.getElem?_append_left (List.getElem?_eq_some_iff.mp hq).1]; exact hq
  obtain ⟨q0, hq0⟩ := wl_at (Y := xY) (σ := σ) hO.1
  rw [cont_obj hO.2 (by decide)] at hq0
  have hF := wA_in hW0 hS hC.2.2.2.2.1
  have hx := fr_out (D := D) (cA := cA) (ad := ad) (ids := ids) (raw := []) hP hD (fun i hi => by
    obtain ⟨k, hk⟩ := wl_at (G := (D, cA, ad, ids, [])) (Y := xY) (σ := σ) hi
    exact ⟨_, List.mem_of_getElem? hk, rfl⟩) (fun x hx => absurd hx List.not_mem_nil)
  refine va_calli (va_runV (As := As) (rest := st) hC.1 (hM H.size) cw ⟨pc_blind hX, va_recv hC.2.2.2.1 hW0.1 (ci := 7) rfl hq0, pc_at hX hW0 hS hC.2.2.2.2.1 hC.2.2.2.1 hC.2.2.2.2.2⟩ rfl hn hl.1 hs0 (lv_room hst) hdg hcs) hS (fun q _ h => hF q h) hF (fun r u t H1 locs1 ht hvm hw hB hz hk hS1 => ?_)
  have hr := hw.1
  subst hr
  obtain ⟨⟨b1, b2, b3⟩, _⟩ := hB
  rw [ht] at b1
  obtain ⟨f1, f2⟩ := fr_cells hP hD hF hx hk b1 b2
  exact kk u hw H1 locs1 ls ⟨by rw [wl_ex]; exact f1, by rw [wl_ex]; exact f2, b3⟩ hS1 hl
/-- a constructor's call: its one raw cell becomes a world, other cells beside it -/
theorem w_callN {U : Type} {Po : U → Prop} {Wl : U → va_W} {Wt : U → Prop} {Bo : U → State → Prop} {M : va_W} {h0 : Nat} {c0 : va_E} {YC : YD} {H : Heap} {locs : List Loc} {ls : Array Slot} (hC : Cx EX D cA YC cc nL ret own Ts p s m args meth c A) (hX : EXok EX) {index maxL mc ms : Nat} {y : MethodName} {bytes : ByteArray} {ws : List Cond} {rm : Room} (hM : ∀ sz : Nat, Met l y ws rm (va_Pc [.ref h0] (MPre EX (D, cA, ad, [], [(h0, c0)]) YC z0 sz)) (va_Qv Po Bo (wA (D, cA, ad, [], [(h0, c0)]) sz)) mc ms (wA (D, cA, ad, [], [(h0, c0)]) sz)) (cw : CallB R s args own index y bytes maxL none ws rm mc ms 0 ∧ y.name = "<init>" ∧ (Cond.instanceMethod y).before args s = true) (hst : (st.map fun v => v.category).sum ≤ 8) (hcs : cells + mc ≤ R.cells ∧ slots + ms ≤ R.slots) (hdg : decode cc pc = .ok (.invokespecial index, 3)) (hB : ∀ u t, Bo u t → va_P D vwCl (Wl u) t.heap ∧ va_D (wA (D, cA, ad, [], [(h0, c0)]) H.size) (Wl u) ∧ Wt u) (hP : va_P D vwCl (M ++ [(h0, c0)]) H) (hD : va_D A (M ++ [(h0, c0)])) (hS : va_S A s.heap H locs) (hl : lv_has ls nL L) (kk : ∀ u H1 locs1, Po u → va_P D vwCl (M ++ Wl u) H1 → va_D A (M ++ Wl u) → Wt u → va_S A s.heap H1 locs1 → W p l e R s m args below meth c H1 locs1 (cells + mc) (slots + ms) Q (F0 m (pc + 3) ls st)) : W p l e R s m args below meth c H locs cells slots Q (F0 m pc ls (.ref h0 :: st)) := by
  have hP' := va_P_swap hP
  have hD' := va_D_swap hD
  have hW0 : wH (D, cA, ad, [], [(h0, c0)]) YC A z0 H := by
    have one : ∀ (k : Nat) (q : Nat × va_E), ([(h0, c0)] : va_W)[k]? = some q → ([(h0, c0)] ++ M)[k]? = some q := fun k q h => by rw [List.getElem?_append_left (List.getElem?_eq_some_iff.mp h).1]; exact h
    refine ⟨fun k q hq => hP' k q (one k q hq), ⟨fun i j a b hi hj e => hD'.1 i j a b (one i a hi) (one j b hj) e, fun k q hq => hD'.2 k q (one k q hq)⟩, fun i hi => absurd hi List.not_mem_nil⟩
  have hF := wA_in hW0 hS hC.2.2.2.2.1
  have hx := fr_out (D := D) (cA := cA) (ad := ad) (ids := []) (raw := [(h0, c0)]) hP' hD' (fun i hi => absurd hi List.not_mem_nil) (fun x hx => hx)
  refine va_callv (va_runI (As := []) (rest := st) hC.1 (hM H.size) cw ⟨pc_blind hX, pc_at hX hW0 hS hC.2.2.2.2.1 hC.2.2.2.1 hC.2.2.2.2.2⟩ rfl rfl hl.1 rfl (lv_room hst) hdg hcs) hS (fun q _ h => hF q h) hF (fun u t H1 locs1 ht hvm hw hBt hz hk hS1 => ?_)
  obtain ⟨b1, b2, b3⟩ := hB u t hBt
  rw [ht] at b1
  obtain ⟨f1, f2⟩ := fr_cells hP' hD' hF hx hk b1 b2
  exact kk u H1 locs1 hw (va_P_swap f1) (va_D_swap f2) b3 hS1
end VW
