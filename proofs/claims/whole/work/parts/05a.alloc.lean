/-! NEW THINGS: raw cells beside the ids, and how they become ids -/
def GE (G : WD) (ex : va_W) : WD := (G.1, G.2.1, G.2.2.1, G.2.2.2.1, ex)
theorem wl_push {G : WD} {Y : YD} {σ : HS} {x : Nat × va_E} : wl (GE G (G.2.2.2.2 ++ [x])) Y σ = wl G Y σ ++ [x] := (List.append_assoc _ _ _).symm
theorem wl_exget {G : WD} {Y : YD} {σ : HS} {k : Nat} {x : Nat × va_E} (h : G.2.2.2.2[k]? = some x) : (wl G Y σ)[G.2.2.2.1.length + k]? = some x := by
  rw [wl, List.getElem?_append_right (by rw [List.length_map]; omega), List.length_map, Nat.add_sub_cancel_left]
  exact h
theorem wl_exset {G : WD} {Y : YD} {σ : HS} {k : Nat} {x : Nat × va_E} : (wl G Y σ).set (G.2.2.2.1.length + k) x = wl (GE G (G.2.2.2.2.set k x)) Y σ := by
  have e := List.set_append_right (s := G.2.2.2.1.map fun i => (G.2.2.1 i, cont G.2.1 G.2.2.1 Y σ i)) (t := G.2.2.2.2) (G.2.2.2.1.length + k) x (by rw [List.length_map]; omega)
  rw [List.length_map, Nat.add_sub_cancel_left] at e
  exact e
theorem wt_ge {G : WD} {Y : YD} {σ : HS} {a b : va_W} (h : wt (GE G a) Y σ) : wt (GE G b) Y σ := fun i hi k j hj => h i hi k j hj
/-- the same cells, listed otherwise -/
theorem V.rex {p : Program} {l : Launch} {e : Env} {R : Room} {s : State} {m : MethodId} {args : Array Value} {below : List Frame} {meth : Method} {c : Code} {nL : Nat} {A : Nat → Prop} {G : WD} {a b : va_W} {Y : YD} {cells slots : Nat} {Q : State → Prop} {σ : HS} {pc : Nat} {L : List (Nat × Value)} {st : List Value} (h : a = b) (k : V p l e R s m args below meth c nL A (GE G b) Y cells slots Q σ pc L st) : V p l e R s m args below meth c nL A (GE G a) Y cells slots Q σ pc L st := h ▸ k
theorem V.spl {p : Program} {l : Launch} {e : Env} {R : Room} {s : State} {m : MethodId} {args : Array Value} {below : List Frame} {meth : Method} {c : Code} {nL : Nat} {A : Nat → Prop} {G : WD} {ex0 t1 t2 t : va_W} {Y : YD} {cells slots : Nat} {Q : State → Prop} {σ : HS} {pc : Nat} {L : List (Nat × Value)} {st : List Value} (h : t = t1 ++ t2) (k : V p l e R s m args below meth c nL A (GE G ((ex0 ++ t1) ++ t2)) Y cells slots Q σ pc L st) : V p l e R s m args below meth c nL A (GE G (ex0 ++ t)) Y cells slots Q σ pc L st := by
  subst h
  rw [← List.append_assoc]
  exact k
theorem V.jn {p : Program} {l : Launch} {e : Env} {R : Room} {s : State} {m : MethodId} {args : Array Value} {below : List Frame} {meth : Method} {c : Code} {nL : Nat} {A : Nat → Prop} {G : WD} {ex0 t1 t2 t : va_W} {Y : YD} {cells slots : Nat} {Q : State → Prop} {σ : HS} {pc : Nat} {L : List (Nat × Value)} {st : List Value} (h : t1 ++ t2 = t) (k : V p l e R s m args below meth c nL A (GE G (ex0 ++ t)) Y cells slots Q σ pc L st) : V p l e R s m args below meth c nL A (GE G ((ex0 ++ t1) ++ t2)) Y cells slots Q σ pc L st := by
  subst h
  rw [List.append_assoc]
  exact k
theorem V.re {p : Program} {l : Launch} {e : Env} {R : Room} {s : State} {m : MethodId} {args : Array Value} {below : List Frame} {meth : Method} {c : Code} {nL : Nat} {A : Nat → Prop} {G G' : WD} {Y : YD} {cells slots : Nat} {Q : State → Prop} {σ σ' : HS} {pc : Nat} {L : List (Nat × Value)} {st : List Value} (hG : G.1 = G'.1) (hw : wl G Y σ = wl G' Y σ') (ht : wt G Y σ → wt G' Y σ') (k : V p l e R s m args below meth c nL A G' Y cells slots Q σ' pc L st) : V p l e R s m args below meth c nL A G Y cells slots Q σ pc L st :=
  fun H locs ls hW hS hl => k H locs ls ⟨by rw [← hG, ← hw]; exact hW.1, by rw [← hw]; exact hW.2.1, ht hW.2.2⟩ hS hl
/-- a constructor's contract: the cells beside the ids become others -/
def MX (EX : (Nat → Prop) → State → Heap → Prop) (l : Launch) (y : MethodName) (ws : List Cond) (rm : Room) (G : WD) (Y : YD) (As : List Value) (σ : HS) (F : Nat × Nat × Nat → va_W) (mc ms : Nat) : Prop := ∀ sz : Nat, Met l y ws rm (va_Pc As (MPre EX G Y σ sz)) (va_Qv (fun (_ : Nat × Nat × Nat) => True) (fun u t => wH (GE G (F u)) Y (wA G sz) σ t.heap ∧ wK G Y t) (wA G sz)) mc ms (wA G sz)
section VN
variable {EX : (Nat → Prop) → State → Heap → Prop} {p : Program} {l : Launch} {e : Env} {R : Room} {s : State} {m : MethodId} {args : Array Value} {below : List Frame} {meth : Method} {c : Code} {nL : Nat} {A : Nat → Prop} {G : WD} {Y : YD} {cells slots : Nat} {Q : State → Prop} {σ τ : HS} {pc : Nat} {L L' : List (Nat × Value)} {st : List Value} {cc : ByteArray} {ret : Option FieldType} {own : String} {Ts : List Cond}
theorem v_newX (hC : Cx EX G.1 G.2.1 Y cc nL ret own Ts p s m args meth c A) {C : String} {T : u_T} {N ci index : Nat} {fs : List Value} {ty : Nat → FieldType} (hin : ∀ w ∈ u_ws C T N, w ∈ Ts) (hty : ∀ k, k < N → parseFieldDescriptor (T k).2.2.1 = some (ty k)) (hw : Cond.classLink own index C ∈ Ts ∧ Cond.instantiable C N ∈ Ts ∧ Cond.initialized C ∈ Ts) (hc : vwCl[ci]? = some (C, T, N)) (hfs : ∀ j, j < N → defaultValue (ty j) = vp_V fs j) (hcells : cells + 1 ≤ R.cells) (hslots : slots + N ≤ R.slots) (hdg : decode cc pc = .ok (.new index, 3)) (kk : ∀ q : Nat, V p l e R s m args below meth c nL A (GE G (G.2.2.2.2 ++ [(q, .inr (ci, fs))])) Y (cells + 1) (slots + N) Q σ (pc + 3) L (.ref q :: st)) : V p l e R s m args below meth c nL A G Y cells slots Q σ pc L st := by
  intro H locs ls hW hS hl
  refine va_new hC.1.1 hC.1.2.1 hC.1.2.2.2.2 hin ty hty hC.1.2.2.2.1 (hC.1.2.2.2.2 _ hw.1) (hC.1.2.2.2.2 _ hw.2.1) (hC.1.2.2.2.2 _ hw.2.2) hC.2.2.2.1 hW.1 hW.2.1 hS hC.2.2.2.2.1 hc hfs hcells hslots hdg (fun q H1 hP hD hS1 => ?_)
  exact kk q H1 locs ls ⟨by rw [wl_push]; exact hP, by rw [wl_push]; exact hD, hW.2.2⟩ hS1 hl
theorem v_newaX (hC : Cx EX G.1 G.2.1 Y cc nL ret own Ts p s m args meth c A) {atype : ArrayType} {ty : FieldType} {kd t0 : Nat} {n : Int32} {N : Nat} {a0 : vp_A} (harr : Cond.arrayClass (newarray.typeOf atype) ∈ Ts) (hty : newarray.typeOf atype = ty) (ht : Y.2.2[t0]? = some (kd, ty)) (hra : ∀ c1 c2, va_RA s c1 ty → va_RA s c2 ty → c1 = c2) (ha : ∀ cA : ClassId, vp_cell cA a0 = arrV cA N (fun _ => defaultValue ty)) (hn : ¬ n < 0) (hN : n.toNatClampNeg = N) (hbytes : N * componentBytes ty ≤ 536870912) (hcells : cells + 1 ≤ R.cells) (hslots : slots + N ≤ R.slots) (hdg : decode cc pc = .ok (.newarray atype, 2)) (kk : ∀ q : Nat, V p l e R s m args below meth c nL A (GE G (G.2.2.2.2 ++ [(q, .inl (G.2.1 kd, a0))])) Y (cells + 1) (slots + N) Q σ (pc + 2) L (.ref q :: st)) : V p l e R s m args below meth c nL A G Y cells slots Q σ pc L (.int n :: st) := by
  intro H locs ls hW hS hl
  refine va_newa hC.1.1 hC.1.2.1 (hC.1.2.2.2.2 _ harr) hty hC.2.2.2.1 hW.1 hW.2.1 hS hC.2.2.2.2.1 ha hn hN hbytes hcells hslots hdg (fun q cA H1 hK hP hD hS1 => ?_)
  have e : cA = G.2.1 kd := by
    refine hra _ _ (hK.2 (Y.2.2.map fun q => (G.2.1 q.1, q.2)).length (cA, ty) (by rw [List.getElem?_append_right (Nat.le_refl _), Nat.sub_self]; rfl)).2 (hC.2.2.2.1.2 t0 _ (ty_at ht)).2
  subst e
  exact kk q H1 locs ls ⟨by rw [wl_push]; exact hP, by rw [wl_push]; exact hD, hW.2.2⟩ hS1 hl
theorem v_newqX (hC : Cx EX G.1 G.2.1 Y cc nL ret own Ts p s m args meth c A) {C : String} {index kd t0 : Nat} {n : Int32} {N : Nat} (hcl : Cond.classLink own index C ∈ Ts) (hao : va_AO C s) (ht : Y.2.2[t0]? = some (kd, .object C)) (hn : ¬ n < 0) (hN : n.toNatClampNeg = N) (hbytes : N * 4 ≤ 536870912) (hcells : cells + 1 ≤ R.cells) (hslots : slots + N ≤ R.slots) (hdg : decode cc pc = .ok (.anewarray index, 3)) (kk : ∀ q : Nat, V p l e R s m args below meth c nL A (GE G (G.2.2.2.2 ++ [(q, .inl (G.2.1 kd, N, .inr (.inr (.inr (.inr (fun _ => none))))))])) Y (cells + 1) (slots + N) Q σ (pc + 3) L (.ref q :: st)) : V p l e R s m args below meth c nL A G Y cells slots Q σ pc L (.int n :: st) := by
  intro H locs ls hW hS hl
  refine va_newq hC.1.1 hC.1.2.1 hC.1.2.2.2.1 (hC.1.2.2.2.2 _ hcl) hao hC.2.2.2.1 hW.1 hW.2.1 hS hC.2.2.2.2.1 hn hN hbytes hcells hslots hdg (fun q cA H1 hK hP hD hS1 => ?_)
  have e : cA = G.2.1 kd := by
    obtain ⟨_, _, _, _, _, h1⟩ := (hK.2 (Y.2.2.map fun q => (G.2.1 q.1, q.2)).length (cA, .object C) (by rw [List.getElem?_append_right (Nat.le_refl _), Nat.sub_self]; rfl)).2
    obtain ⟨_, _, _, _, _, h2⟩ := (hC.2.2.2.1.2 t0 _ (ty_at ht)).2
    exact Option.some.inj (h1.symm.trans h2)
  subst e
  exact kk q H1 locs ls ⟨by rw [wl_push]; exact hP, by rw [wl_push]; exact hD, hW.2.2⟩ hS1 hl
theorem v_putFX (hC : Cx EX G.1 G.2.1 Y cc nL ret own Ts p s m args meth c A) {C : String} {T : u_T} {N ci index a k x : Nat} {fs : List Value} {v : Value} {ty : FieldType} {ty0 : Nat → FieldType} (he : G.2.2.2.2[x]? = some (a, .inr (ci, fs))) (hin : ∀ w ∈ u_ws C T N, w ∈ Ts) (hc : vwCl[ci]? = some (C, T, N)) (hk : k < N) (hT : (T k).1 = C) (hown : C = own) (hty : ∀ k, k < N → parseFieldDescriptor (T k).2.2.1 = some (ty0 k)) (hnm : ∀ a, a < N → ∀ b, b < N → a ≠ b → (T a).2.1 ≠ (T b).2.1) (hlink : Cond.fieldLink own index C (T k).2.1 (T k).2.2.1 ∈ Ts) (hfin : (T k).2.2.2 = true) (hinit : meth.name = "<init>") (hd : ty0 k = ty) (hn : narrow ty v = v) (hfit : fits ty v = true) (hl0 : k < fs.length) (hdg : decode cc pc = .ok (.putfield index, 3)) (kk : V p l e R s m args below meth c nL A (GE G (G.2.2.2.2.set x (a, .inr (ci, fs.set k v)))) Y cells slots Q σ (pc + 3) L st) : V p l e R s m args below meth c nL A G Y cells slots Q σ pc L (v :: .ref a :: st) := by
  intro H locs ls hW hS hl
  refine va_putF hC.1.1 hC.1.2.1 hC.1.2.2.2.2 hin ty0 hty hnm hC.1.2.2.2.1 hC.2.2.2.1 hW.1 hW.2.1 hS _ (wl_exget he) hc k hk (hC.1.2.2.2.2 _ hlink) (fun x h => by rw [hT] at h; exact h) hfin hinit (hT.trans hown) (by rw [hty k hk, hd]) hn hfit hl0 hdg (fun H1 locs1 hP1 hD1 hS1 => ?_)
  rw [wl_exset] at hP1 hD1
  exact kk H1 locs1 ls ⟨hP1, hD1, hW.2.2⟩ hS1 hl
theorem v_putX (hC : Cx EX G.1 G.2.1 Y cc nL ret own Ts p s m args meth c A) {C : String} {T : u_T} {N ci index a k x : Nat} {fs : List Value} {v : Value} {ty : FieldType} {ty0 : Nat → FieldType} (he : G.2.2.2.2[x]? = some (a, .inr (ci, fs))) (hin : ∀ w ∈ u_ws C T N, w ∈ Ts) (hc : vwCl[ci]? = some (C, T, N)) (hk : k < N) (hT : (T k).1 = C) (hty : ∀ k, k < N → parseFieldDescriptor (T k).2.2.1 = some (ty0 k)) (hnm : ∀ a, a < N → ∀ b, b < N → a ≠ b → (T a).2.1 ≠ (T b).2.1) (hlink : Cond.fieldLink own index C (T k).2.1 (T k).2.2.1 ∈ Ts) (hfin : (T k).2.2.2 = false) (hd : ty0 k = ty) (hn : narrow ty v = v) (hfit : fits ty v = true) (hl0 : k < fs.length) (hdg : decode cc pc = .ok (.putfield index, 3)) (kk : V p l e R s m args below meth c nL A (GE G (G.2.2.2.2.set x (a, .inr (ci, fs.set k v)))) Y cells slots Q σ (pc + 3) L st) : V p l e R s m args below meth c nL A G Y cells slots Q σ pc L (v :: .ref a :: st) := by
  intro H locs ls hW hS hl
  refine va_put hC.1.1 hC.1.2.1 hC.1.2.2.2.2 hin ty0 hty hnm hC.1.2.2.2.1 hC.2.2.2.1 hW.1 hW.2.1 hS _ (wl_exget he) hc k hk (hC.1.2.2.2.2 _ hlink) (fun x h => by rw [hT] at h; exact h) hfin (by rw [hty k hk, hd]) hn hfit hl0 hdg (fun H1 locs1 hP1 hD1 hS1 => ?_)
  rw [wl_exset] at hP1 hD1
  exact kk H1 locs1 ls ⟨hP1, hD1, hW.2.2⟩ hS1 hl
theorem v_objInit (hC : Cx EX G.1 G.2.1 Y cc nL ret own Ts p s m args meth c A) {index a : Nat} (hw : Cond.methodLink own index Lib.objectInit ∈ Ts ∧ Cond.instanceMethod Lib.objectInit ∈ Ts ∧ Cond.code Lib.objectInit ⟨#[0xb1]⟩ 1 none ∈ Ts) (hf : 1 ≤ R.frames) (hlo : (st.map fun v => v.category).sum + 12 ≤ R.locals) (hdg : decode cc pc = .ok (.invokespecial index, 3)) (kk : V p l e R s m args below meth c nL A G Y cells slots Q σ (pc + 3) L st) : V p l e R s m args below meth c nL A G Y cells slots Q σ pc L (.ref a :: st) :=
  fun H locs ls hW hS hl => W.objInit hC.1.1 hC.1.2.1 hC.1.2.2.2.1 (hC.1.2.2.2.2 _ hw.1) (hC.1.2.2.2.2 _ hw.2.1) (hC.1.2.2.2.2 _ hw.2.2) (g := F0 m pc ls (.ref a :: st)) rfl (hl.1.trans hC.1.2.2.1.symm) rfl hdg hf (by show 2 * 0 + _ + 12 ≤ _; omega) (kk H locs ls hW hS hl)
theorem v_vretX {F : Nat × Nat × Nat → va_W} (u : Nat × Nat × Nat) (hC : Cx EX G.1 G.2.1 Y cc nL ret own Ts p s m args meth c A) (hr : ret = none) (hdg : decode cc pc = .ok (.return_, 1)) {G0 : WD} (hG : G = GE G0 (F u)) : V p l e R s m args below meth c nL A G Y cells slots (MQ below (va_Qv (fun (_ : Nat × Nat × Nat) => True) (fun u t => wH (GE G0 (F u)) Y A σ t.heap ∧ wK G0 Y t) A) args s cells slots A) σ pc L [] := by
  subst hG
  exact fun H locs ls hW hS hl => W.vret hC.1.1 hC.1.2.1 (hC.2.1.trans hr) (fun t ht hWm => ⟨⟨u, rfl, trivial, by rw [ht]; exact hW, va_K.moved hWm.alike hC.2.2.2.1⟩, hS.F ht⟩) hS.2.2 hdg hC.2.2.1
/-- a call of a constructor: a nest mate's private one, or one that anybody may call -/
theorem v_callIN (hC : Cx EX G.1 G.2.1 Y cc nL ret own Ts p s m args meth c A) (hX : EXok EX) {st0 : List Value} {n index maxL b mc ms : Nat} {y : MethodName} {host : String} {bytes : ByteArray} {ws : List Cond} {rm : Room} {As : List Value} {F : Nat × Nat × Nat → va_W} (hM : MX EX l y ws rm G Y (.ref b :: As) σ F mc ms) (cw : va_CN R s args own index y host bytes maxL none ws rm mc ms n ∧ y.name = "<init>" ∧ (Cond.instanceMethod y).before args s = true) (hn : As.length = n) (hst : (st.map fun v => v.category).sum ≤ 8) (hcs : cells + mc ≤ R.cells ∧ slots + ms ≤ R.slots) (hdg : decode cc pc = .ok (.invokespecial index, 3)) (hs0 : st0 = As.reverse ++ .ref b :: st) (kk : ∀ u, V p l e R s m args below meth c nL A (GE G (F u)) Y (cells + mc) (slots + ms) Q σ (pc + 3) L st) : V p l e R s m args below meth c nL A G Y cells slots Q σ pc L st0 := by
  intro H locs ls hW hS hl
  have hF := wA_in hW hS hC.2.2.2.2.1
  refine va_callv (va_runIN (As := As) (rest := st) hC.1 (hM H.size) cw ⟨pc_blind hX, pc_at hX hW hS hC.2.2.2.2.1 hC.2.2.2.1 hC.2.2.2.2.2⟩ rfl hn hl.1 hs0 (lv_room hst) hdg hcs) hS (fun q _ h => hF q h) hF (fun u t H1 locs1 ht hvm hw hB hz hk hS1 => ?_)
  exact kk u H1 locs1 ls (by rw [← ht]; exact hB.1.weaken hF) hS1 hl
theorem v_callIX (hC : Cx EX G.1 G.2.1 Y cc nL ret own Ts p s m args meth c A) (hX : EXok EX) {st0 : List Value} {n index maxL b mc ms : Nat} {y : MethodName} {bytes : ByteArray} {ws : List Cond} {rm : Room} {As : List Value} {F : Nat × Nat × Nat → va_W} (hM : MX EX l y ws rm G Y (.ref b :: As) σ F mc ms) (cw : CallB R s args own index y bytes maxL none ws rm mc ms n ∧ y.name = "<init>" ∧ (Cond.instanceMethod y).before args s = true) (hn : As.length = n) (hst : (st.map fun v => v.category).sum ≤ 8) (hcs : cells + mc ≤ R.cells ∧ slots + ms ≤ R.slots) (hdg : decode cc pc = .ok (.invokespecial index, 3)) (hs0 : st0 = As.reverse ++ .ref b :: st) (kk : ∀ u, V p l e R s m args below meth c nL A (GE G (F u)) Y (cells + mc) (slots + ms) Q σ (pc + 3) L st) : V p l e R s m args below meth c nL A G Y cells slots Q σ pc L st0 := by
  intro H locs ls hW hS hl
  have hF := wA_in hW hS hC.2.2.2.2.1
  refine va_callv (va_runI (As := As) (rest := st) hC.1 (hM H.size) cw ⟨pc_blind hX, pc_at hX hW hS hC.2.2.2.2.1 hC.2.2.2.1 hC.2.2.2.2.2⟩ rfl hn hl.1 hs0 (lv_room hst) hdg hcs) hS (fun q _ h => hF q h) hF (fun u t H1 locs1 ht hvm hw hB hz hk hS1 => ?_)
  exact kk u H1 locs1 ls (by rw [← ht]; exact hB.1.weaken hF) hS1 hl
end VN
theorem MX.of {EX : (Nat → Prop) → State → Heap → Prop} {l : Launch} {y : MethodName} {ws ws' : List Cond} {rm : Room} {G : WD} {Y : YD} {As : List Value} {σ : HS} {F : Nat × Nat × Nat → va_W} {mc ms : Nat} {cc : ByteArray} {maxL : Nat} {ret : Option FieldType} (own : String) (hy : plainName y.cls = true) (hw : ws = Cond.code y cc maxL ret :: ws') (hown : y.cls = own) (hlen : (lg_sl As).length ≤ maxL) (hrc : rm.cells = mc) (hrs : rm.slots = ms)
    (body : ∀ (p : Program) (e : Env) (s : State) (m : MethodId) (below : List Frame) (meth : Method) (c : Code), Cx EX G.1 G.2.1 Y cc maxL ret own ws p s m As.toArray meth c (wA G s.heap.size) → meth.name = y.name → V p l e rm s m As.toArray below meth c maxL (wA G s.heap.size) G Y 0 0 (MQ below (va_Qv (fun (_ : Nat × Nat × Nat) => True) (fun u t => wH (GE G (F u)) Y (wA G s.heap.size) σ t.heap ∧ wK G Y t) (wA G s.heap.size)) As.toArray s mc ms (wA G s.heap.size)) σ 0 (lv_args 0 As) []) : MX EX l y ws rm G Y As σ F mc ms := by
  intro sz
  refine Met.ofW (cc := cc) (maxL := maxL) (ret := ret) hy hw ?_
  intro p e s m args below meth c s₁ B hml hv
  obtain ⟨rfl, hsz, hW, hK, hE⟩ := hv
  subst hsz
  have hC : Cx EX G.1 G.2.1 Y cc maxL ret own ws p s m As.toArray meth c (wA G s.heap.size) := ⟨⟨B.exec, B.bytes, hml, by rw [← hown]; exact findClass_of_methodNamed B.named, atoms_spec (ws := ws) B.pre⟩, B.returns, B.notSynchronized, hK, fun q h => Or.inr (Or.inr h), hE⟩
  rw [lg_entry_eq]
  exact body p e s m below meth c hC (name_of_methodNamed B.named B.method).1 s.heap [] _ hW.self va_S.rf (lv_entry As hlen)
section VT
variable {EX : (Nat → Prop) → State → Heap → Prop} {p : Program} {l : Launch} {e : Env} {R : Room} {s : State} {m : MethodId} {args : Array Value} {below : List Frame} {meth : Method} {c : Code} {nL : Nat} {A : Nat → Prop} {G : WD} {ex0 tl : va_W} {Y : YD} {cells slots : Nat} {Q : State → Prop} {σ τ : HS} {pc : Nat} {L L' : List (Nat × Value)} {st : List Value} {cc : ByteArray} {ret : Option FieldType} {own : String} {Ts : List Cond}
theorem v_newXt (hC : Cx EX G.1 G.2.1 Y cc nL ret own Ts p s m args meth c A) {C : String} {T : u_T} {N ci index : Nat} {fs : List Value} {ty : Nat → FieldType} (hin : ∀ w ∈ u_ws C T N, w ∈ Ts) (hty : ∀ k, k < N → parseFieldDescriptor (T k).2.2.1 = some (ty k)) (hw : Cond.classLink own index C ∈ Ts ∧ Cond.instantiable C N ∈ Ts ∧ Cond.initialized C ∈ Ts) (hc : vwCl[ci]? = some (C, T, N)) (hfs : ∀ j, j < N → defaultValue (ty j) = vp_V fs j) (hcells : cells + 1 ≤ R.cells) (hslots : slots + N ≤ R.slots) (hdg : decode cc pc = .ok (.new index, 3)) (kk : ∀ q : Nat, V p l e R s m args below meth c nL A (GE G (ex0 ++ (tl ++ [(q, .inr (ci, fs))]))) Y (cells + 1) (slots + N) Q σ (pc + 3) L (.ref q :: st)) : V p l e R s m args below meth c nL A (GE G (ex0 ++ tl)) Y cells slots Q σ pc L st :=
  v_newX (G := GE G (ex0 ++ tl)) hC hin hty hw hc hfs hcells hslots hdg (fun q => by rw [show (GE G (ex0 ++ tl)).2.2.2.2 ++ [(q, .inr (ci, fs))] = ex0 ++ (tl ++ [(q, .inr (ci, fs))]) from List.append_assoc _ _ _]; exact kk q)
theorem v_newaXt (hC : Cx EX G.1 G.2.1 Y cc nL ret own Ts p s m args meth c A) {atype : ArrayType} {ty : FieldType} {kd t0 : Nat} {n : Int32} {N : Nat} {a0 : vp_A} (harr : Cond.arrayClass (newarray.typeOf atype) ∈ Ts) (hty : newarray.typeOf atype = ty) (ht : Y.2.2[t0]? = some (kd, ty)) (hra : ∀ c1 c2, va_RA s c1 ty → va_RA s c2 ty → c1 = c2) (ha : ∀ cA : ClassId, vp_cell cA a0 = arrV cA N (fun _ => defaultValue ty)) (hn : ¬ n < 0) (hN : n.toNatClampNeg = N) (hbytes : N * componentBytes ty ≤ 536870912) (hcells : cells + 1 ≤ R.cells) (hslots : slots + N ≤ R.slots) (hdg : decode cc pc = .ok (.newarray atype, 2)) (kk : ∀ q : Nat, V p l e R s m args below meth c nL A (GE G (ex0 ++ (tl ++ [(q, .inl (G.2.1 kd, a0))]))) Y (cells + 1) (slots + N) Q σ (pc + 2) L (.ref q :: st)) : V p l e R s m args below meth c nL A (GE G (ex0 ++ tl)) Y cells slots Q σ pc L (.int n :: st) :=
  v_newaX (G := GE G (ex0 ++ tl)) hC harr hty ht hra ha hn hN hbytes hcells hslots hdg (fun q => by rw [show (GE G (ex0 ++ tl)).2.2.2.2 ++ [(q, .inl ((GE G (ex0 ++ tl)).2.1 kd, a0))] = ex0 ++ (tl ++ [(q, .inl (G.2.1 kd, a0))]) from List.append_assoc _ _ _]; exact kk q)
theorem ex_get {ex0 tl : va_W} {x : Nat} {y : Nat × va_E} (h : tl[x]? = some y) : (ex0 ++ tl)[ex0.length + x]? = some y := by
  rw [List.getElem?_append_right (by omega), Nat.add_sub_cancel_left]
  exact h
theorem ex_set {ex0 tl : va_W} {x : Nat} {y : Nat × va_E} : (ex0 ++ tl).set (ex0.length + x) y = ex0 ++ tl.set x y := by
  rw [List.set_append_right _ _ (by omega), Nat.add_sub_cancel_left]
theorem v_putFXt (hC : Cx EX G.1 G.2.1 Y cc nL ret own Ts p s m args meth c A) {C : String} {T : u_T} {N ci index a k x : Nat} {fs : List Value} {v : Value} {ty : FieldType} {ty0 : Nat → FieldType} (he : tl[x]? = some (a, .inr (ci, fs))) (hin : ∀ w ∈ u_ws C T N, w ∈ Ts) (hc : vwCl[ci]? = some (C, T, N)) (hk : k < N) (hT : (T k).1 = C) (hown : C = own) (hty : ∀ k, k < N → parseFieldDescriptor (T k).2.2.1 = some (ty0 k)) (hnm : ∀ a, a < N → ∀ b, b < N → a ≠ b → (T a).2.1 ≠ (T b).2.1) (hlink : Cond.fieldLink own index C (T k).2.1 (T k).2.2.1 ∈ Ts) (hfin : (T k).2.2.2 = true) (hinit : meth.name = "<init>") (hd : ty0 k = ty) (hn : narrow ty v = v) (hfit : fits ty v = true) (hl0 : k < fs.length) (hdg : decode cc pc = .ok (.putfield index, 3)) (kk : V p l e R s m args below meth c nL A (GE G (ex0 ++ tl.set x (a, .inr (ci, fs.set k v)))) Y cells slots Q σ (pc + 3) L st) : V p l e R s m args below meth c nL A (GE G (ex0 ++ tl)) Y cells slots Q σ pc L (v :: .ref a :: st) :=
  v_putFX (G := GE G (ex0 ++ tl)) hC (ex_get he) hin hc hk hT hown hty hnm hlink hfin hinit hd hn hfit hl0 hdg (by rw [show (GE G (ex0 ++ tl)).2.2.2.2.set (ex0.length + x) (a, .inr (ci, fs.set k v)) = ex0 ++ tl.set x (a, .inr (ci, fs.set k v)) from ex_set]; exact kk)
theorem v_putXt (hC : Cx EX G.1 G.2.1 Y cc nL ret own Ts p s m args meth c A) {C : String} {T : u_T} {N ci index a k x : Nat} {fs : List Value} {v : Value} {ty : FieldType} {ty0 : Nat → FieldType} (he : tl[x]? = some (a, .inr (ci, fs))) (hin : ∀ w ∈ u_ws C T N, w ∈ Ts) (hc : vwCl[ci]? = some (C, T, N)) (hk : k < N) (hT : (T k).1 = C) (hty : ∀ k, k < N → parseFieldDescriptor (T k).2.2.1 = some (ty0 k)) (hnm : ∀ a, a < N → ∀ b, b < N → a ≠ b → (T a).2.1 ≠ (T b).2.1) (hlink : Cond.fieldLink own index C (T k).2.1 (T k).2.2.1 ∈ Ts) (hfin : (T k).2.2.2 = false) (hd : ty0 k = ty) (hn : narrow ty v = v) (hfit : fits ty v = true) (hl0 : k < fs.length) (hdg : decode cc pc = .ok (.putfield index, 3)) (kk : V p l e R s m args below meth c nL A (GE G (ex0 ++ tl.set x (a, .inr (ci, fs.set k v)))) Y cells slots Q σ (pc + 3) L st) : V p l e R s m args below meth c nL A (GE G (ex0 ++ tl)) Y cells slots Q σ pc L (v :: .ref a :: st) :=
  v_putX (G := GE G (ex0 ++ tl)) hC (ex_get he) hin hc hk hT hty hnm hlink hfin hd hn hfit hl0 hdg (by rw [show (GE G (ex0 ++ tl)).2.2.2.2.set (ex0.length + x) (a, .inr (ci, fs.set k v)) = ex0 ++ tl.set x (a, .inr (ci, fs.set k v)) from ex_set]; exact kk)
theorem v_ge {tl' : va_W} (h : tl = tl') (kk : V p l e R s m args below meth c nL A (GE G (ex0 ++ tl')) Y cells slots Q σ pc L st) : V p l e R s m args below meth c nL A (GE G (ex0 ++ tl)) Y cells slots Q σ pc L st := h ▸ kk
end VT
theorem xE_nm0 {adK adV : Nat → Nat} {tb : Nat} {A : Nat → Prop} {U : State} {H : Heap} (h : xE adK adV tb A U H) : va_Nw (Cond.methodLinkNest RX8 9 yX0_init RX8) U := h.1.2 (RX8, 9, yX0_init) (List.mem_of_getElem? (i := 0) rfl)
theorem xE_nm1 {adK adV : Nat → Nat} {tb : Nat} {A : Nat → Prop} {U : State} {H : Heap} (h : xE adK adV tb A U H) : va_Nw (Cond.methodLinkNest RX1 11 yX4_init RX8) U := h.1.2 (RX1, 11, yX4_init) (List.mem_of_getElem? (i := 1) rfl)
theorem xE_nm2 {adK adV : Nat → Nat} {tb : Nat} {A : Nat → Prop} {U : State} {H : Heap} (h : xE adK adV tb A U H) : va_Nw (Cond.methodLinkNest RX8 60 yX5_init RX8) U := h.1.2 (RX8, 60, yX5_init) (List.mem_of_getElem? (i := 2) rfl)
theorem xE_nm3 {adK adV : Nat → Nat} {tb : Nat} {A : Nat → Prop} {U : State} {H : Heap} (h : xE adK adV tb A U H) : va_Nw (Cond.methodLinkNest RX8 67 yX2_init RX8) U := h.1.2 (RX8, 67, yX2_init) (List.mem_of_getElem? (i := 3) rfl)
theorem xE_nm4 {adK adV : Nat → Nat} {tb : Nat} {A : Nat → Prop} {U : State} {H : Heap} (h : xE adK adV tb A U H) : va_Nw (Cond.methodLinkNest RX8 91 yX4_init RX8) U := h.1.2 (RX8, 91, yX4_init) (List.mem_of_getElem? (i := 4) rfl)
theorem xE_nm5 {adK adV : Nat → Nat} {tb : Nat} {A : Nat → Prop} {U : State} {H : Heap} (h : xE adK adV tb A U H) : va_Nw (Cond.methodLinkNest RX8 100 yX3_init RX8) U := h.1.2 (RX8, 100, yX3_init) (List.mem_of_getElem? (i := 5) rfl)
theorem xE_nm6 {adK adV : Nat → Nat} {tb : Nat} {A : Nat → Prop} {U : State} {H : Heap} (h : xE adK adV tb A U H) : va_Nw (Cond.methodLinkNest RX8 101 yX6_init RX8) U := h.1.2 (RX8, 101, yX6_init) (List.mem_of_getElem? (i := 6) rfl)
theorem oi3_X4_init : Cond.methodLink RX4 3 Lib.objectInit ∈ wsX4_init ∧ Cond.instanceMethod Lib.objectInit ∈ wsX4_init ∧ Cond.code Lib.objectInit ⟨#[0xb1]⟩ 1 none ∈ wsX4_init := by decide +kernel
theorem fl9_X4_init : Cond.fieldLink RX4 9 RX4 (TX4 0).2.1 (TX4 0).2.2.1 ∈ wsX4_init := by decide +kernel
theorem hrX4_X4_init : ∀ w ∈ u_ws RX4 TX4 7, w ∈ wsX4_init := by decide +kernel
set_option maxHeartbeats 4000000 in
set_option maxRecDepth 100000 in
theorem k_X4_init {adK adV : Nat → Nat} {tb : Nat} (l : Launch) {G : WD} {σ : HS} {h0 : Nat} {ex0 : va_W} : MX (xE adK adV tb) l yX4_init wsX4_init { frames := 1, cells := 0, slots := 0, locals := 30 } (GE G (ex0 ++ [(h0, .inr (4, [.int 0, .int 0, .int 0, .int 0, .int 0, .int 0, .long 0]))])) xY [.ref h0] σ (fun u => ex0 ++ [(h0, .inr (4, [.int 0, .int 0, .int 0, .int 0, .int 0, .int 0, .long 0]))]) 0 0 := by
  refine MX.of RX4 (by decide) rfl rfl (Nat.le_of_ble_eq_true rfl) rfl rfl (fun p e s m below meth c hC hin => ?_)
  refine v_aload_n hC dX4_init_0 0 rfl ?_
  refine v_objInit hC oi3_X4_init (Nat.le_of_ble_eq_true rfl) (Nat.le_of_ble_eq_true rfl) dX4_init_1 ?_
  refine v_aload_n hC dX4_init_4 0 rfl ?_
  refine v_iconst (v := 0) hC dX4_init_5 (by decide) ?_
  refine v_putXt (C := RX4) (T := TX4) (N := 7) (ci := 4) (k := 0) (x := 0) (fs := [.int 0, .int 0, .int 0, .int 0, .int 0, .int 0, .long 0]) (ty := .int) hC rfl hrX4_X4_init rfl (by decide) rfl tyX4_ok nmX4 fl9_X4_init rfl rfl rfl rfl (Nat.le_of_ble_eq_true rfl) dX4_init_6 ?_
  refine v_ge (tl' := [(h0, .inr (4, [.int 0, .int 0, .int 0, .int 0, .int 0, .int 0, .long 0]))]) rfl ?_
  exact v_vretX (G := GE G (ex0 ++ [(h0, .inr (4, [.int 0, .int 0, .int 0, .int 0, .int 0, .int 0, .long 0]))])) (F := fun u => ex0 ++ [(h0, .inr (4, [.int 0, .int 0, .int 0, .int 0, .int 0, .int 0, .long 0]))]) (0, 0, 0) hC rfl dX4_init_9 rfl
theorem oi3_X2_init : Cond.methodLink RX2 3 Lib.objectInit ∈ wsX2_init ∧ Cond.instanceMethod Lib.objectInit ∈ wsX2_init ∧ Cond.code Lib.objectInit ⟨#[0xb1]⟩ 1 none ∈ wsX2_init := by decide +kernel
set_option maxHeartbeats 4000000 in
set_option maxRecDepth 100000 in
theorem k_X2_init {adK adV : Nat → Nat} {tb : Nat} (l : Launch) {G : WD} {σ : HS} {h0 : Nat} {ex0 : va_W} : MX (xE adK adV tb) l yX2_init wsX2_init { frames := 1, cells := 0, slots := 0, locals := 30 } (GE G (ex0 ++ [(h0, .inr (2, [.null, .null, .int 0, .int 0, .int 0]))])) xY [.ref h0] σ (fun u => ex0 ++ [(h0, .inr (2, [.null, .null, .int 0, .int 0, .int 0]))]) 0 0 := by
  refine MX.of RX2 (by decide) rfl rfl (Nat.le_of_ble_eq_true rfl) rfl rfl (fun p e s m below meth c hC hin => ?_)
  refine v_aload_n hC dX2_init_0 0 rfl ?_
  refine v_objInit hC oi3_X2_init (Nat.le_of_ble_eq_true rfl) (Nat.le_of_ble_eq_true rfl) dX2_init_1 ?_
  exact v_vretX (G := GE G (ex0 ++ [(h0, .inr (2, [.null, .null, .int 0, .int 0, .int 0]))])) (F := fun u => ex0 ++ [(h0, .inr (2, [.null, .null, .int 0, .int 0, .int 0]))]) (0, 0, 0) hC rfl dX2_init_4 rfl
theorem oi3_X0_init : Cond.methodLink RX0 3 Lib.objectInit ∈ wsX0_init ∧ Cond.instanceMethod Lib.objectInit ∈ wsX0_init ∧ Cond.code Lib.objectInit ⟨#[0xb1]⟩ 1 none ∈ wsX0_init := by decide +kernel
theorem arint_X0_init : Cond.arrayClass .int ∈ wsX0_init := by decide +kernel
theorem fl9_X0_init : Cond.fieldLink RX0 9 RX0 (TX0 0).2.1 (TX0 0).2.2.1 ∈ wsX0_init := by decide +kernel
theorem hrX0_X0_init : ∀ w ∈ u_ws RX0 TX0 5, w ∈ wsX0_init := by decide +kernel
theorem fl15_X0_init : Cond.fieldLink RX0 15 RX0 (TX0 1).2.1 (TX0 1).2.2.1 ∈ wsX0_init := by decide +kernel
set_option maxHeartbeats 4000000 in
set_option maxRecDepth 100000 in
theorem k_X0_init {adK adV : Nat → Nat} {tb : Nat} (l : Launch) {G : WD} {σ : HS} {h0 : Nat} {ex0 : va_W} : MX (xE adK adV tb) l yX0_init wsX0_init { frames := 1, cells := 1, slots := 12, locals := 30 } (GE G (ex0 ++ [(h0, .inr (0, [.null, .int 0, .int 0, .int 0, .int 0]))])) xY [.ref h0] σ (fun u => ex0 ++ [(h0, .inr (0, [.ref u.1, .int 0, .int 0, .int 0, .int 0])), (u.1, .inl (G.2.1 9, 12, .inl (fun _ => 0)))]) 1 12 := by
  refine MX.of RX0 (by decide) rfl rfl (Nat.le_of_ble_eq_true rfl) rfl rfl (fun p e s m below meth c hC hin => ?_)
  refine v_aload_n hC dX0_init_0 0 rfl ?_
  refine v_objInit hC oi3_X0_init (Nat.le_of_ble_eq_true rfl) (Nat.le_of_ble_eq_true rfl) dX0_init_1 ?_
  refine v_aload_n hC dX0_init_4 0 rfl ?_
  refine v_bipush (v := 12) hC dX0_init_5 (by decide) ?_
  refine v_newaXt (kd := 9) (t0 := 0) (ty := .int) (N := 12) (a0 := (12, .inl (fun _ => 0))) (atype := .int) hC arint_X0_init rfl rfl (fun _ _ h h2 => Option.some.inj (h.symm.trans h2)) (fun _ => rfl) (by decide) (by decide) (by decide) (Nat.le_of_ble_eq_true rfl) (Nat.le_of_ble_eq_true rfl) dX0_init_7 (fun q7 => ?_)
  refine v_ge (tl' := [(h0, .inr (0, [.null, .int 0, .int 0, .int 0, .int 0])), (q7, .inl (G.2.1 9, 12, .inl (fun _ => 0)))]) rfl ?_
  refine v_putFXt (C := RX0) (T := TX0) (N := 5) (ci := 0) (k := 0) (x := 0) (fs := [.null, .int 0, .int 0, .int 0, .int 0]) hC rfl hrX0_X0_init rfl (by decide) rfl rfl tyX0_ok nmX0 fl9_X0_init rfl hin rfl rfl rfl (Nat.le_of_ble_eq_true rfl) dX0_init_9 ?_
  refine v_ge (tl' := [(h0, .inr (0, [.ref q7, .int 0, .int 0, .int 0, .int 0])), (q7, .inl (G.2.1 9, 12, .inl (fun _ => 0)))]) rfl ?_
  refine v_aload_n hC dX0_init_12 0 rfl ?_
  refine v_iconst (v := 0) hC dX0_init_13 (by decide) ?_
  refine v_putXt (C := RX0) (T := TX0) (N := 5) (ci := 0) (k := 1) (x := 0) (fs := [.ref q7, .int 0, .int 0, .int 0, .int 0]) (ty := .int) hC rfl hrX0_X0_init rfl (by decide) rfl tyX0_ok nmX0 fl15_X0_init rfl rfl rfl rfl (Nat.le_of_ble_eq_true rfl) dX0_init_14 ?_
  refine v_ge (tl' := [(h0, .inr (0, [.ref q7, .int 0, .int 0, .int 0, .int 0])), (q7, .inl (G.2.1 9, 12, .inl (fun _ => 0)))]) rfl ?_
  exact v_vretX (G := GE G (ex0 ++ [(h0, .inr (0, [.ref q7, .int 0, .int 0, .int 0, .int 0])), (q7, .inl (G.2.1 9, 12, .inl (fun _ => 0)))])) (F := fun u => ex0 ++ [(h0, .inr (0, [.ref u.1, .int 0, .int 0, .int 0, .int 0])), (u.1, .inl (G.2.1 9, 12, .inl (fun _ => 0)))]) (q7, 0, 0) hC rfl dX0_init_17 rfl
theorem oi3_X3_init : Cond.methodLink RX3 3 Lib.objectInit ∈ wsX3_init ∧ Cond.instanceMethod Lib.objectInit ∈ wsX3_init ∧ Cond.code Lib.objectInit ⟨#[0xb1]⟩ 1 none ∈ wsX3_init := by decide +kernel
theorem arint_X3_init : Cond.arrayClass .int ∈ wsX3_init := by decide +kernel
theorem fl9_X3_init : Cond.fieldLink RX3 9 RX3 (TX3 0).2.1 (TX3 0).2.2.1 ∈ wsX3_init := by decide +kernel
theorem hrX3_X3_init : ∀ w ∈ u_ws RX3 TX3 3, w ∈ wsX3_init := by decide +kernel
theorem fl15_X3_init : Cond.fieldLink RX3 15 RX3 (TX3 1).2.1 (TX3 1).2.2.1 ∈ wsX3_init := by decide +kernel
theorem fl19_X3_init : Cond.fieldLink RX3 19 RX3 (TX3 2).2.1 (TX3 2).2.2.1 ∈ wsX3_init := by decide +kernel
set_option maxHeartbeats 4000000 in
set_option maxRecDepth 100000 in
theorem k_X3_init {adK adV : Nat → Nat} {tb : Nat} (l : Launch) {G : WD} {σ : HS} {h0 : Nat} {ex0 : va_W} : MX (xE adK adV tb) l yX3_init wsX3_init { frames := 1, cells := 1, slots := 40, locals := 30 } (GE G (ex0 ++ [(h0, .inr (3, [.null, .int 0, .int 0]))])) xY [.ref h0] σ (fun u => ex0 ++ [(h0, .inr (3, [.ref u.1, .int (-1), .int 0])), (u.1, .inl (G.2.1 9, 40, .inl (fun _ => 0)))]) 1 40 := by
  refine MX.of RX3 (by decide) rfl rfl (Nat.le_of_ble_eq_true rfl) rfl rfl (fun p e s m below meth c hC hin => ?_)
  refine v_aload_n hC dX3_init_0 0 rfl ?_
  refine v_objInit hC oi3_X3_init (Nat.le_of_ble_eq_true rfl) (Nat.le_of_ble_eq_true rfl) dX3_init_1 ?_
  refine v_aload_n hC dX3_init_4 0 rfl ?_
  refine v_bipush (v := 40) hC dX3_init_5 (by decide) ?_
  refine v_newaXt (kd := 9) (t0 := 0) (ty := .int) (N := 40) (a0 := (40, .inl (fun _ => 0))) (atype := .int) hC arint_X3_init rfl rfl (fun _ _ h h2 => Option.some.inj (h.symm.trans h2)) (fun _ => rfl) (by decide) (by decide) (by decide) (Nat.le_of_ble_eq_true rfl) (Nat.le_of_ble_eq_true rfl) dX3_init_7 (fun q7 => ?_)
  refine v_ge (tl' := [(h0, .inr (3, [.null, .int 0, .int 0])), (q7, .inl (G.2.1 9, 40, .inl (fun _ => 0)))]) rfl ?_
  refine v_putFXt (C := RX3) (T := TX3) (N := 3) (ci := 3) (k := 0) (x := 0) (fs := [.null, .int 0, .int 0]) hC rfl hrX3_X3_init rfl (by decide) rfl rfl tyX3_ok nmX3 fl9_X3_init rfl hin rfl rfl rfl (Nat.le_of_ble_eq_true rfl) dX3_init_9 ?_
  refine v_ge (tl' := [(h0, .inr (3, [.ref q7, .int 0, .int 0])), (q7, .inl (G.2.1 9, 40, .inl (fun _ => 0)))]) rfl ?_
  refine v_aload_n hC dX3_init_12 0 rfl ?_
  refine v_iconst (v := (-1)) hC dX3_init_13 (by decide) ?_
  refine v_putXt (C := RX3) (T := TX3) (N := 3) (ci := 3) (k := 1) (x := 0) (fs := [.ref q7, .int 0, .int 0]) (ty := .int) hC rfl hrX3_X3_init rfl (by decide) rfl tyX3_ok nmX3 fl15_X3_init rfl rfl rfl rfl (Nat.le_of_ble_eq_true rfl) dX3_init_14 ?_
  refine v_ge (tl' := [(h0, .inr (3, [.ref q7, .int (-1), .int 0])), (q7, .inl (G.2.1 9, 40, .inl (fun _ => 0)))]) rfl ?_
  refine v_aload_n hC dX3_init_17 0 rfl ?_
  refine v_iconst (v := 0) hC dX3_init_18 (by decide) ?_
  refine v_putXt (C := RX3) (T := TX3) (N := 3) (ci := 3) (k := 2) (x := 0) (fs := [.ref q7, .int (-1), .int 0]) (ty := .int) hC rfl hrX3_X3_init rfl (by decide) rfl tyX3_ok nmX3 fl19_X3_init rfl rfl rfl rfl (Nat.le_of_ble_eq_true rfl) dX3_init_19 ?_
  refine v_ge (tl' := [(h0, .inr (3, [.ref q7, .int (-1), .int 0])), (q7, .inl (G.2.1 9, 40, .inl (fun _ => 0)))]) rfl ?_
  exact v_vretX (G := GE G (ex0 ++ [(h0, .inr (3, [.ref q7, .int (-1), .int 0])), (q7, .inl (G.2.1 9, 40, .inl (fun _ => 0)))])) (F := fun u => ex0 ++ [(h0, .inr (3, [.ref u.1, .int (-1), .int 0])), (u.1, .inl (G.2.1 9, 40, .inl (fun _ => 0)))]) (q7, 0, 0) hC rfl dX3_init_22 rfl
theorem oi3_X5_init : Cond.methodLink RX5 3 Lib.objectInit ∈ wsX5_init ∧ Cond.instanceMethod Lib.objectInit ∈ wsX5_init ∧ Cond.code Lib.objectInit ⟨#[0xb1]⟩ 1 none ∈ wsX5_init := by decide +kernel
theorem arint_X5_init : Cond.arrayClass .int ∈ wsX5_init := by decide +kernel
theorem fl9_X5_init : Cond.fieldLink RX5 9 RX5 (TX5 0).2.1 (TX5 0).2.2.1 ∈ wsX5_init := by decide +kernel
theorem hrX5_X5_init : ∀ w ∈ u_ws RX5 TX5 2, w ∈ wsX5_init := by decide +kernel
theorem fl15_X5_init : Cond.fieldLink RX5 15 RX5 (TX5 1).2.1 (TX5 1).2.2.1 ∈ wsX5_init := by decide +kernel
set_option maxHeartbeats 4000000 in
set_option maxRecDepth 100000 in
theorem k_X5_init {adK adV : Nat → Nat} {tb : Nat} (l : Launch) {G : WD} {σ : HS} {h0 : Nat} {ex0 : va_W} : MX (xE adK adV tb) l yX5_init wsX5_init { frames := 1, cells := 1, slots := 160, locals := 30 } (GE G (ex0 ++ [(h0, .inr (5, [.null, .int 0]))])) xY [.ref h0] σ (fun u => ex0 ++ [(h0, .inr (5, [.ref u.1, .int 0])), (u.1, .inl (G.2.1 9, 160, .inl (fun _ => 0)))]) 1 160 := by
  refine MX.of RX5 (by decide) rfl rfl (Nat.le_of_ble_eq_true rfl) rfl rfl (fun p e s m below meth c hC hin => ?_)
  refine v_aload_n hC dX5_init_0 0 rfl ?_
  refine v_objInit hC oi3_X5_init (Nat.le_of_ble_eq_true rfl) (Nat.le_of_ble_eq_true rfl) dX5_init_1 ?_
  refine v_aload_n hC dX5_init_4 0 rfl ?_
  refine v_sipush (v := 160) hC dX5_init_5 (by decide) ?_
  refine v_newaXt (kd := 9) (t0 := 0) (ty := .int) (N := 160) (a0 := (160, .inl (fun _ => 0))) (atype := .int) hC arint_X5_init rfl rfl (fun _ _ h h2 => Option.some.inj (h.symm.trans h2)) (fun _ => rfl) (by decide) (by decide) (by decide) (Nat.le_of_ble_eq_true rfl) (Nat.le_of_ble_eq_true rfl) dX5_init_8 (fun q8 => ?_)
  refine v_ge (tl' := [(h0, .inr (5, [.null, .int 0])), (q8, .inl (G.2.1 9, 160, .inl (fun _ => 0)))]) rfl ?_
  refine v_putFXt (C := RX5) (T := TX5) (N := 2) (ci := 5) (k := 0) (x := 0) (fs := [.null, .int 0]) hC rfl hrX5_X5_init rfl (by decide) rfl rfl tyX5_ok nmX5 fl9_X5_init rfl hin rfl rfl rfl (Nat.le_of_ble_eq_true rfl) dX5_init_10 ?_
  refine v_ge (tl' := [(h0, .inr (5, [.ref q8, .int 0])), (q8, .inl (G.2.1 9, 160, .inl (fun _ => 0)))]) rfl ?_
  refine v_aload_n hC dX5_init_13 0 rfl ?_
  refine v_iconst (v := 0) hC dX5_init_14 (by decide) ?_
  refine v_putXt (C := RX5) (T := TX5) (N := 2) (ci := 5) (k := 1) (x := 0) (fs := [.ref q8, .int 0]) (ty := .int) hC rfl hrX5_X5_init rfl (by decide) rfl tyX5_ok nmX5 fl15_X5_init rfl rfl rfl rfl (Nat.le_of_ble_eq_true rfl) dX5_init_15 ?_
  refine v_ge (tl' := [(h0, .inr (5, [.ref q8, .int 0])), (q8, .inl (G.2.1 9, 160, .inl (fun _ => 0)))]) rfl ?_
  exact v_vretX (G := GE G (ex0 ++ [(h0, .inr (5, [.ref q8, .int 0])), (q8, .inl (G.2.1 9, 160, .inl (fun _ => 0)))])) (F := fun u => ex0 ++ [(h0, .inr (5, [.ref u.1, .int 0])), (u.1, .inl (G.2.1 9, 160, .inl (fun _ => 0)))]) (q8, 0, 0) hC rfl dX5_init_18 rfl
theorem oi3_X6_init : Cond.methodLink RX6 3 Lib.objectInit ∈ wsX6_init ∧ Cond.instanceMethod Lib.objectInit ∈ wsX6_init ∧ Cond.code Lib.objectInit ⟨#[0xb1]⟩ 1 none ∈ wsX6_init := by decide +kernel
theorem arint_X6_init : Cond.arrayClass .int ∈ wsX6_init := by decide +kernel
theorem fl9_X6_init : Cond.fieldLink RX6 9 RX6 (TX6 0).2.1 (TX6 0).2.2.1 ∈ wsX6_init := by decide +kernel
theorem hrX6_X6_init : ∀ w ∈ u_ws RX6 TX6 5, w ∈ wsX6_init := by decide +kernel
theorem fl15_X6_init : Cond.fieldLink RX6 15 RX6 (TX6 1).2.1 (TX6 1).2.2.1 ∈ wsX6_init := by decide +kernel
theorem fl19_X6_init : Cond.fieldLink RX6 19 RX6 (TX6 2).2.1 (TX6 2).2.2.1 ∈ wsX6_init := by decide +kernel
theorem fl22_X6_init : Cond.fieldLink RX6 22 RX6 (TX6 3).2.1 (TX6 3).2.2.1 ∈ wsX6_init := by decide +kernel
set_option maxHeartbeats 4000000 in
set_option maxRecDepth 100000 in
theorem k_X6_init {adK adV : Nat → Nat} {tb : Nat} (l : Launch) {G : WD} {σ : HS} {h0 : Nat} {ex0 : va_W} : MX (xE adK adV tb) l yX6_init wsX6_init { frames := 1, cells := 3, slots := 203, locals := 30 } (GE G (ex0 ++ [(h0, .inr (6, [.null, .int 0, .null, .null, .int 0]))])) xY [.ref h0] σ (fun u => ex0 ++ [(h0, .inr (6, [.ref u.1, .int 0, .ref u.2.1, .ref u.2.2, .int 0])), (u.1, .inl (G.2.1 9, 160, .inl (fun _ => 0))), (u.2.1, .inl (G.2.1 9, 3, .inl (fun _ => 0))), (u.2.2, .inl (G.2.1 9, 40, .inl (fun _ => 0)))]) 3 203 := by
  refine MX.of RX6 (by decide) rfl rfl (Nat.le_of_ble_eq_true rfl) rfl rfl (fun p e s m below meth c hC hin => ?_)
  refine v_aload_n hC dX6_init_0 0 rfl ?_
  refine v_objInit hC oi3_X6_init (Nat.le_of_ble_eq_true rfl) (Nat.le_of_ble_eq_true rfl) dX6_init_1 ?_
  refine v_aload_n hC dX6_init_4 0 rfl ?_
  refine v_sipush (v := 160) hC dX6_init_5 (by decide) ?_
  refine v_newaXt (kd := 9) (t0 := 0) (ty := .int) (N := 160) (a0 := (160, .inl (fun _ => 0))) (atype := .int) hC arint_X6_init rfl rfl (fun _ _ h h2 => Option.some.inj (h.symm.trans h2)) (fun _ => rfl) (by decide) (by decide) (by decide) (Nat.le_of_ble_eq_true rfl) (Nat.le_of_ble_eq_true rfl) dX6_init_8 (fun q8 => ?_)
  refine v_ge (tl' := [(h0, .inr (6, [.null, .int 0, .null, .null, .int 0])), (q8, .inl (G.2.1 9, 160, .inl (fun _ => 0)))]) rfl ?_
  refine v_putFXt (C := RX6) (T := TX6) (N := 5) (ci := 6) (k := 0) (x := 0) (fs := [.null, .int 0, .null, .null, .int 0]) hC rfl hrX6_X6_init rfl (by decide) rfl rfl tyX6_ok nmX6 fl9_X6_init rfl hin rfl rfl rfl (Nat.le_of_ble_eq_true rfl) dX6_init_10 ?_
  refine v_ge (tl' := [(h0, .inr (6, [.ref q8, .int 0, .null, .null, .int 0])), (q8, .inl (G.2.1 9, 160, .inl (fun _ => 0)))]) rfl ?_
  refine v_aload_n hC dX6_init_13 0 rfl ?_
  refine v_iconst (v := 0) hC dX6_init_14 (by decide) ?_
  refine v_putXt (C := RX6) (T := TX6) (N := 5) (ci := 6) (k := 1) (x := 0) (fs := [.ref q8, .int 0, .null, .null, .int 0]) (ty := .int) hC rfl hrX6_X6_init rfl (by decide) rfl tyX6_ok nmX6 fl15_X6_init rfl rfl rfl rfl (Nat.le_of_ble_eq_true rfl) dX6_init_15 ?_
  refine v_ge (tl' := [(h0, .inr (6, [.ref q8, .int 0, .null, .null, .int 0])), (q8, .inl (G.2.1 9, 160, .inl (fun _ => 0)))]) rfl ?_
  refine v_aload_n hC dX6_init_18 0 rfl ?_
  refine v_iconst (v := 3) hC dX6_init_19 (by decide) ?_
  refine v_newaXt (kd := 9) (t0 := 0) (ty := .int) (N := 3) (a0 := (3, .inl (fun _ => 0))) (atype := .int) hC arint_X6_init rfl rfl (fun _ _ h h2 => Option.some.inj (h.symm.trans h2)) (fun _ => rfl) (by decide) (by decide) (by decide) (Nat.le_of_ble_eq_true rfl) (Nat.le_of_ble_eq_true rfl) dX6_init_20 (fun q20 => ?_)
  refine v_ge (tl' := [(h0, .inr (6, [.ref q8, .int 0, .null, .null, .int 0])), (q8, .inl (G.2.1 9, 160, .inl (fun _ => 0))), (q20, .inl (G.2.1 9, 3, .inl (fun _ => 0)))]) rfl ?_
  refine v_putFXt (C := RX6) (T := TX6) (N := 5) (ci := 6) (k := 2) (x := 0) (fs := [.ref q8, .int 0, .null, .null, .int 0]) hC rfl hrX6_X6_init rfl (by decide) rfl rfl tyX6_ok nmX6 fl19_X6_init rfl hin rfl rfl rfl (Nat.le_of_ble_eq_true rfl) dX6_init_22 ?_
  refine v_ge (tl' := [(h0, .inr (6, [.ref q8, .int 0, .ref q20, .null, .int 0])), (q8, .inl (G.2.1 9, 160, .inl (fun _ => 0))), (q20, .inl (G.2.1 9, 3, .inl (fun _ => 0)))]) rfl ?_
  refine v_aload_n hC dX6_init_25 0 rfl ?_
  refine v_bipush (v := 40) hC dX6_init_26 (by decide) ?_
  refine v_newaXt (kd := 9) (t0 := 0) (ty := .int) (N := 40) (a0 := (40, .inl (fun _ => 0))) (atype := .int) hC arint_X6_init rfl rfl (fun _ _ h h2 => Option.some.inj (h.symm.trans h2)) (fun _ => rfl) (by decide) (by decide) (by decide) (Nat.le_of_ble_eq_true rfl) (Nat.le_of_ble_eq_true rfl) dX6_init_28 (fun q28 => ?_)
  refine v_ge (tl' := [(h0, .inr (6, [.ref q8, .int 0, .ref q20, .null, .int 0])), (q8, .inl (G.2.1 9, 160, .inl (fun _ => 0))), (q20, .inl (G.2.1 9, 3, .inl (fun _ => 0))), (q28, .inl (G.2.1 9, 40, .inl (fun _ => 0)))]) rfl ?_
  refine v_putFXt (C := RX6) (T := TX6) (N := 5) (ci := 6) (k := 3) (x := 0) (fs := [.ref q8, .int 0, .ref q20, .null, .int 0]) hC rfl hrX6_X6_init rfl (by decide) rfl rfl tyX6_ok nmX6 fl22_X6_init rfl hin rfl rfl rfl (Nat.le_of_ble_eq_true rfl) dX6_init_30 ?_
  refine v_ge (tl' := [(h0, .inr (6, [.ref q8, .int 0, .ref q20, .ref q28, .int 0])), (q8, .inl (G.2.1 9, 160, .inl (fun _ => 0))), (q20, .inl (G.2.1 9, 3, .inl (fun _ => 0))), (q28, .inl (G.2.1 9, 40, .inl (fun _ => 0)))]) rfl ?_
  exact v_vretX (G := GE G (ex0 ++ [(h0, .inr (6, [.ref q8, .int 0, .ref q20, .ref q28, .int 0])), (q8, .inl (G.2.1 9, 160, .inl (fun _ => 0))), (q20, .inl (G.2.1 9, 3, .inl (fun _ => 0))), (q28, .inl (G.2.1 9, 40, .inl (fun _ => 0)))])) (F := fun u => ex0 ++ [(h0, .inr (6, [.ref u.1, .int 0, .ref u.2.1, .ref u.2.2, .int 0])), (u.1, .inl (G.2.1 9, 160, .inl (fun _ => 0))), (u.2.1, .inl (G.2.1 9, 3, .inl (fun _ => 0))), (u.2.2, .inl (G.2.1 9, 40, .inl (fun _ => 0)))]) (q8, q20, q28) hC rfl dX6_init_33 rfl
/-! RAW CELLS BECOME IDS -/
def z0 : HS := (fun _ _ => 0, fun _ _ => 0, fun _ _ => none)
/-- the ids js stand at ad', behind the others; no cells beside them -/
def GA (G : WD) (ad' : Nat → Nat) (js : List Nat) : WD := (G.1, G.2.1, ad', G.2.2.2.1 ++ js, [])
/-- what no id holds is no reference -/
def RN (G : WD) (σ : HS) : Prop := ∀ j, j ∉ G.2.2.2.1 → ∀ k, gR σ j k = none
theorem cont_ad {G : WD} {Y : YD} {σ : HS} {ad' : Nat → Nat} (hG : GX G Y) (hw : wt G Y σ) (had : ∀ k, k ∈ G.2.2.2.1 → ad' k = G.2.2.1 k) {i : Nat} (hi : i ∈ G.2.2.2.1) : cont G.2.1 ad' Y σ i = cont G.2.1 G.2.2.1 Y σ i := by
  have er : ∀ k, (gR σ i k).map ad' = (gR σ i k).map G.2.2.1 := by
    intro k
    cases h : gR σ i k with
    | none => rfl
    | some j => exact congrArg some (had j (hw i hi k j h).1)
  by_cases hk : Y.1 i < 9
  · have ef : fl ad' σ i (Y.1 i) = fl G.2.2.1 σ i (Y.1 i) := by
      unfold fl
      refine List.map_congr_left fun k _ => ?_
      unfold fval
      split
      · rfl
      · rfl
      · exact congrArg va_rf (er k)
      · next n hn =>
        have h3 : i + n ∈ G.2.2.2.1 := by
          have h4 := hG i hi hk k (by rw [hn]; omega)
          rw [hn] at h4
          exact h4
        rw [had _ h3]
    rw [cont, cont, if_pos hk, if_pos hk, ef]
  · rw [cont, cont, if_neg hk, if_neg hk, arow, arow]
    simp only [er]
theorem ab_gen {G : WD} {Y : YD} {σ σ' : HS} {js : List Nat} {ad' : Nat → Nat} {ex1 : va_W} (hG : GX G Y) (hw : wt G Y σ) (had : ∀ k, k ∈ G.2.2.2.1 → ad' k = G.2.2.1 k) (hs : ∀ k, k ∈ G.2.2.2.1 → σ'.1 k = σ.1 k ∧ σ'.2.1 k = σ.2.1 k ∧ σ'.2.2 k = σ.2.2 k) (hex : js.map (fun j => (ad' j, cont G.2.1 ad' Y σ' j)) = ex1) : wl (GE G ex1) Y σ = wl (GA G ad' js) Y σ' := by
  subst hex
  show (G.2.2.2.1.map fun i => (G.2.2.1 i, cont G.2.1 G.2.2.1 Y σ i)) ++ js.map (fun j => (ad' j, cont G.2.1 ad' Y σ' j)) = ((G.2.2.2.1 ++ js).map fun i => (ad' i, cont G.2.1 ad' Y σ' i)) ++ []
  rw [List.append_nil, List.map_append]
  refine congrArg (· ++ _) (List.map_congr_left fun i hi => ?_)
  obtain ⟨s1, s2, s3⟩ := hs i hi
  rw [cont_same s1 s2 s3, cont_ad hG hw had hi, had i hi]
theorem wt_gen {G : WD} {Y : YD} {σ σ' : HS} {js : List Nat} {ad' : Nat → Nat} (hw : wt G Y σ) (hs : ∀ k, k ∈ G.2.2.2.1 → σ'.2.2 k = σ.2.2 k) (hn : ∀ j, j ∈ js → ∀ k, gR σ' j k = none) : wt (GA G ad' js) Y σ' := by
  intro i hi k j hj
  rcases List.mem_append.mp hi with h | h
  · have e : gR σ' i k = gR σ i k := congrFun (hs i h) k
    rw [e] at hj
    exact ⟨List.mem_append_left _ (hw i h k j hj).1, (hw i h k j hj).2⟩
  · rw [hn i h k] at hj
    cases hj
theorem GX_gen {G : WD} {Y : YD} {js : List Nat} {ad' : Nat → Nat} (hG : GX G Y) (hn : ∀ j, j ∈ js → Y.1 j < 9 → ∀ k, 3 ≤ fcd (Y.1 j) k → j + (fcd (Y.1 j) k - 3) ∈ js) : GX (GA G ad' js) Y := by
  intro i hi hk k h3
  rcases List.mem_append.mp hi with h | h
  · exact List.mem_append_left _ (hG i h hk k h3)
  · exact List.mem_append_right _ (hn i h hk k h3)
section VA
variable {EX : (Nat → Prop) → State → Heap → Prop} {p : Program} {l : Launch} {e : Env} {R : Room} {s : State} {m : MethodId} {args : Array Value} {below : List Frame} {meth : Method} {c : Code} {nL : Nat} {A : Nat → Prop} {G : WD} {Y : YD} {cells slots : Nat} {Q : State → Prop} {σ τ : HS} {pc : Nat} {L L' : List (Nat × Value)} {st : List Value} {cc : ByteArray} {ret : Option FieldType} {own : String} {Ts : List Cond}
theorem v_aast (hC : Cx EX G.1 G.2.1 Y cc nL ret own Ts p s m args meth c A) {C : String} {T : u_T} {N a n t0 ck ci j : Nat} {i : Int32} (hO : Ob G Y a ck) (hck : 12 ≤ ck) (hn : Y.2.1 a = n) (ht : Y.2.2[t0]? = some (ck, .object C)) (hj : Ob G Y j ci) (hci : ci < 9) (hc : vwCl[ci]? = some (C, T, N)) (hr : rkd ck (ix i) = ci) (hin : inb i n = true) (hdg : decode cc pc = .ok (.aastore, 1)) (kk : V p l e R s m args below meth c nL A G Y cells slots Q (sR σ a (ix i) (some j)) (pc + 1) L st) : V p l e R s m args below meth c nL A G Y cells slots Q σ pc L (.ref (G.2.2.1 j) :: .int i :: .ref (G.2.2.1 a) :: st) := by
  intro H locs ls hW hS hl
  obtain ⟨q0, hq⟩ := wl_at (Y := Y) (σ := σ) hO.1
  obtain ⟨q1, hq1⟩ := wl_at (Y := Y) (σ := σ) hj.1
  have hq' := hq
  rw [cont_ref hO.2 hck, hn] at hq
  rw [cont_obj hj.2 hci] at hq1
  refine va_astq hC.1.1 hC.1.2.1 hC.2.2.2.1 hW.1 hW.2.1 hS q0 t0 q1 ci hq (ty_at ht) hq1 hc (inb_vp hin) hdg (fun H1 locs1 hP1 hD1 hS1 => ?_)
  refine kk H1 locs1 ls (wH_set hW hO.1 hq' ?_ (sR_ne σ a (ix i) (some j)) (wt_sR hW.2.2 (fun z hz => by cases hz; rw [hO.2, hr]; exact ⟨hj.1, hj.2⟩)) hP1 hD1) hS1 hl
  rw [cont_ref hO.2 hck, hn]
  have e : (fun k => (gR (sR σ a (ix i) (some j)) a k).map G.2.2.1) = va_up (fun k => (gR σ a k).map G.2.2.1) i.toNatClampNeg (some (G.2.2.1 j)) := by
    funext k
    rw [gR_sR]
    unfold va_up ix
    by_cases h : k = i.toNatClampNeg
    · simp [h]
    · simp [h]
  rw [e]
theorem V.widen {k n : Nat} (h1 : cells ≤ k) (h2 : slots ≤ n) (kk : V p l e R s m args below meth c nL A G Y k n Q σ pc L st) : V p l e R s m args below meth c nL A G Y cells slots Q σ pc L st := fun H locs ls hW hS hl => W.widen h1 h2 (kk H locs ls hW hS hl)
/-- raw cells become ids: state and world go on together -/
theorem V.absorb {σ' : HS} {js : List Nat} {ad' : Nat → Nat} {ex1 : va_W} (hG : GX G Y) (had : ∀ k, k ∈ G.2.2.2.1 → ad' k = G.2.2.1 k) (hs : ∀ k, k ∈ G.2.2.2.1 → σ'.1 k = σ.1 k ∧ σ'.2.1 k = σ.2.1 k ∧ σ'.2.2 k = σ.2.2 k) (hex : js.map (fun j => (ad' j, cont G.2.1 ad' Y σ' j)) = ex1) (hn : ∀ j, j ∈ js → ∀ k, gR σ' j k = none) (k : V p l e R s m args below meth c nL A (GA G ad' js) Y cells slots Q σ' pc L st) : V p l e R s m args below meth c nL A (GE G ex1) Y cells slots Q σ pc L st :=
  v_wt fun hw => V.re (G := GE G ex1) (G' := GA G ad' js) rfl (ab_gen hG hw had hs hex) (fun hw => wt_gen (G := G) hw (fun k hk => (hs k hk).2.2) hn) k
end VA
def mkSheet (σ : HS) (j : Nat) : HS := sA (sI (sI σ j 1 (-1)) j 2 0) (j + 1) (fun _ => 0)
def mkText (σ : HS) (j : Nat) : HS := sA (sA (sA (sI (sI σ j 1 0) j 4 0) (j + 1) (fun _ => 0)) (j + 2) (fun _ => 0)) (j + 3) (fun _ => 0)
def mkPlan (σ : HS) (j : Nat) (kd nm : Int32) : HS := sJ (sI (sI (sI (sI (sI (sI (sI (sI σ j 0 kd) j 1 nm) (j + 1) 0 0) (j + 1) 1 0) (j + 1) 2 0) (j + 1) 3 0) (j + 1) 4 0) (j + 1) 5 0) (j + 1) 6 0
def up2 (ad : Nat → Nat) (j q q1 : Nat) : Nat → Nat := fun k => if k = j then q else if k = j + 1 then q1 else ad k
def up4 (ad : Nat → Nat) (j q q1 q2 q3 : Nat) : Nat → Nat := fun k => if k = j then q else if k = j + 1 then q1 else if k = j + 2 then q2 else if k = j + 3 then q3 else ad k
theorem ex_sheet {cA : Nat → ClassId} {ad : Nat → Nat} {σ : HS} {j q q1 : Nat} (h0 : xY.1 j = 3) (h1 : xY.1 (j + 1) = 9) (h2 : xY.2.1 (j + 1) = 40) : [j, j + 1].map (fun i => (up2 ad j q q1 i, cont cA (up2 ad j q q1) xY (mkSheet σ j) i)) = [(q, .inr (3, [.ref q1, .int (-1), .int 0])), (q1, .inl (cA 9, 40, .inl (fun _ => 0)))] := by
  have a0 : up2 ad j q q1 j = q := by simp [up2]
  have a1 : up2 ad j q q1 (j + 1) = q1 := by simp [up2]
  have ef : fl (up2 ad j q q1) (mkSheet σ j) j 3 = [.ref (up2 ad j q q1 (j + 1)), .int (gI (mkSheet σ j) j 1), .int (gI (mkSheet σ j) j 2)] := rfl
  have e1 : gI (mkSheet σ j) j 1 = -1 := by simp [mkSheet, gI_sA, gI_sI]
  have e2 : gI (mkSheet σ j) j 2 = 0 := by simp [mkSheet, gI_sA, gI_sI]
  have e3 : gI (mkSheet σ j) (j + 1) = fun _ => 0 := by funext k; simp [mkSheet, gI_sA]
  simp only [List.map_cons, List.map_nil]
  rw [cont_obj h0 (by decide), cont_int h1 (Or.inl rfl), h2, ef, a0, a1, e1, e2, e3]
theorem ex_text {cA : Nat → ClassId} {ad : Nat → Nat} {σ : HS} {j q q1 q2 q3 : Nat} (h0 : xY.1 j = 6) (h1 : xY.1 (j + 1) = 9 ∧ xY.2.1 (j + 1) = 160) (h2 : xY.1 (j + 2) = 9 ∧ xY.2.1 (j + 2) = 3) (h3 : xY.1 (j + 3) = 9 ∧ xY.2.1 (j + 3) = 40) : [j, j + 1, j + 2, j + 3].map (fun i => (up4 ad j q q1 q2 q3 i, cont cA (up4 ad j q q1 q2 q3) xY (mkText σ j) i)) = [(q, .inr (6, [.ref q1, .int 0, .ref q2, .ref q3, .int 0])), (q1, .inl (cA 9, 160, .inl (fun _ => 0))), (q2, .inl (cA 9, 3, .inl (fun _ => 0))), (q3, .inl (cA 9, 40, .inl (fun _ => 0)))] := by
  have a0 : up4 ad j q q1 q2 q3 j = q := by simp [up4]
  have a1 : up4 ad j q q1 q2 q3 (j + 1) = q1 := by simp [up4]
  have a2 : up4 ad j q q1 q2 q3 (j + 2) = q2 := by simp [up4]
  have a3 : up4 ad j q q1 q2 q3 (j + 3) = q3 := by simp [up4]
  have ef : fl (up4 ad j q q1 q2 q3) (mkText σ j) j 6 = [.ref (up4 ad j q q1 q2 q3 (j + 1)), .int (gI (mkText σ j) j 1), .ref (up4 ad j q q1 q2 q3 (j + 2)), .ref (up4 ad j q q1 q2 q3 (j + 3)), .int (gI (mkText σ j) j 4)] := rfl
  have e1 : gI (mkText σ j) j 1 = 0 := by simp [mkText, gI_sA, gI_sI]
  have e2 : gI (mkText σ j) j 4 = 0 := by simp [mkText, gI_sA, gI_sI]
  have e3 : gI (mkText σ j) (j + 1) = fun _ => 0 := by funext k; simp [mkText, gI_sA]
  have e4 : gI (mkText σ j) (j + 2) = fun _ => 0 := by funext k; simp [mkText, gI_sA]
  have e5 : gI (mkText σ j) (j + 3) = fun _ => 0 := by funext k; simp [mkText, gI_sA]
  simp only [List.map_cons, List.map_nil]
  rw [cont_obj h0 (by decide), cont_int h1.1 (Or.inl rfl), cont_int h2.1 (Or.inl rfl), cont_int h3.1 (Or.inl rfl), h1.2, h2.2, h3.2, ef, a0, a1, a2, a3, e1, e2, e3, e4, e5]
theorem ex_plan {cA : Nat → ClassId} {ad : Nat → Nat} {σ : HS} {j q q1 : Nat} {kd nm : Int32} (h0 : xY.1 j = 1) (h1 : xY.1 (j + 1) = 4) : [j, j + 1].map (fun i => (up2 ad j q q1 i, cont cA (up2 ad j q q1) xY (mkPlan σ j kd nm) i)) = [(q, .inr (1, [.int kd, .int nm, .ref q1])), (q1, .inr (4, [.int 0, .int 0, .int 0, .int 0, .int 0, .int 0, .long 0]))] := by
  have a0 : up2 ad j q q1 j = q := by simp [up2]
  have a1 : up2 ad j q q1 (j + 1) = q1 := by simp [up2]
  have ef : fl (up2 ad j q q1) (mkPlan σ j kd nm) j 1 = [.int (gI (mkPlan σ j kd nm) j 0), .int (gI (mkPlan σ j kd nm) j 1), .ref (up2 ad j q q1 (j + 1))] := rfl
  have eg : fl (up2 ad j q q1) (mkPlan σ j kd nm) (j + 1) 4 = [.int (gI (mkPlan σ j kd nm) (j + 1) 0), .int (gI (mkPlan σ j kd nm) (j + 1) 1), .int (gI (mkPlan σ j kd nm) (j + 1) 2), .int (gI (mkPlan σ j kd nm) (j + 1) 3), .int (gI (mkPlan σ j kd nm) (j + 1) 4), .int (gI (mkPlan σ j kd nm) (j + 1) 5), .long (gJ (mkPlan σ j kd nm) (j + 1) 6)] := rfl
  have e0 : gI (mkPlan σ j kd nm) j 0 = kd := by simp [mkPlan, gI_sI, gI_sJ]
  have e1 : gI (mkPlan σ j kd nm) j 1 = nm := by simp [mkPlan, gI_sI, gI_sJ]
  have f0 : gI (mkPlan σ j kd nm) (j + 1) 0 = 0 := by simp [mkPlan, gI_sI, gI_sJ]
  have f1 : gI (mkPlan σ j kd nm) (j + 1) 1 = 0 := by simp [mkPlan, gI_sI, gI_sJ]
  have f2 : gI (mkPlan σ j kd nm) (j + 1) 2 = 0 := by simp [mkPlan, gI_sI, gI_sJ]
  have f3 : gI (mkPlan σ j kd nm) (j + 1) 3 = 0 := by simp [mkPlan, gI_sI, gI_sJ]
  have f4 : gI (mkPlan σ j kd nm) (j + 1) 4 = 0 := by simp [mkPlan, gI_sI, gI_sJ]
  have f5 : gI (mkPlan σ j kd nm) (j + 1) 5 = 0 := by simp [mkPlan, gI_sI, gI_sJ]
  have f6 : gJ (mkPlan σ j kd nm) (j + 1) 6 = 0 := by simp [mkPlan, gJ_sJ]
  simp only [List.map_cons, List.map_nil]
  rw [cont_obj h0 (by decide), cont_obj h1 (by decide), ef, eg, a0, a1, e0, e1, f0, f1, f2, f3, f4, f5, f6]
/-- a state written at js alone: what others hold stays -/
theorem mk_same {σ σ' : HS} {js : List Nat} {S : Nat → Prop} (hS : ∀ k, S k → k ∉ js) (h : ∀ k, k ∉ js → σ'.1 k = σ.1 k ∧ σ'.2.1 k = σ.2.1 k ∧ σ'.2.2 k = σ.2.2 k) : ∀ k, S k → σ'.1 k = σ.1 k ∧ σ'.2.1 k = σ.2.1 k ∧ σ'.2.2 k = σ.2.2 k := fun k hk => h k (hS k hk)
theorem mkSheet_ne (σ : HS) (j : Nat) : ∀ k, k ≠ j → k ≠ j + 1 → (mkSheet σ j).1 k = σ.1 k ∧ (mkSheet σ j).2.1 k = σ.2.1 k ∧ (mkSheet σ j).2.2 k = σ.2.2 k := by
  intro k h h1
  refine ⟨?_, rfl, rfl⟩
  funext n
  simp [mkSheet, sA, sI, u2, h, h1]
theorem mkText_ne (σ : HS) (j : Nat) : ∀ k, k ≠ j → k ≠ j + 1 → k ≠ j + 2 → k ≠ j + 3 → (mkText σ j).1 k = σ.1 k ∧ (mkText σ j).2.1 k = σ.2.1 k ∧ (mkText σ j).2.2 k = σ.2.2 k := by
  intro k h h1 h2 h3
  refine ⟨?_, rfl, rfl⟩
  funext n
  simp [mkText, sA, sI, u2, h, h1, h2, h3]
theorem mkPlan_ne (σ : HS) (j : Nat) (kd nm : Int32) : ∀ k, k ≠ j → k ≠ j + 1 → (mkPlan σ j kd nm).1 k = σ.1 k ∧ (mkPlan σ j kd nm).2.1 k = σ.2.1 k ∧ (mkPlan σ j kd nm).2.2 k = σ.2.2 k := by
  intro k h h1
  refine ⟨?_, ?_, rfl⟩
  · funext n
    simp [mkPlan, sJ, sI, u2, h, h1]
  · funext n
    simp [mkPlan, sJ, sI, u2, h, h1]
/-- the ids behind so many plans -/
def xS (pc k : Nat) : Prop := k < 19 ∨ (20 ≤ k ∧ k < 76 + 2 * pc)
