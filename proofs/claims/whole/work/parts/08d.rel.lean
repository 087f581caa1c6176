/-! ONE RELATION of both worlds, which every call keeps -/
noncomputable def dcn (e : Nat → Vf) (n lks : Nat) (f : Nat → Int32) : Nat → Nat
  | 0 => 0
  | m + 1 => dcn e n lks f m + if Hm e 3 m n lks f = nI n then 1 else 0
noncomputable def dst (e : Nat → Vf) (n lks : Nat) (f : Nat → Int32) (x : Int32) : Int32 := if x = -1 then nI (dcn e n lks f n) else if x ≤ nI (dcn e n lks f n) then x else nI (dcn e n lks f n)
noncomputable def dfin (e : Nat → Vf) (n lks : Nat) : Int32 := all n (dst e n lks) (facN n - 1) (fun k => nI k) (-1)
def RTx (tc : Nat) (ev : Nat → Nat → Vf) (σ υ : HS) : Prop := (1 ≤ tc ∧ tc ≤ 6) ∧ (gI σ 0 12 = nI tc ∧ gI υ 0 3 = nI tc) ∧ (∀ t, t < 6 → gR σ 11 t = some (20 + 4 * t)) ∧ ∀ t, t < tc → Evf (ev t) ∧ EvX (gI σ (20 + 4 * t + 1)) (gI σ (20 + 4 * t + 2)) t (ev t) ∧ EvM (gI υ 1) (gI υ 2 t) t (ev t)
def RTp (σ υ : HS) : Prop := ∃ sz, sz ≤ 160 ∧ gI σ 12 1 = nI sz ∧ gI υ 0 6 = nI sz ∧ ∀ k, k < sz → ∃ v, v < 256 ∧ gI σ 13 k = nI v ∧ gI υ 3 k = nI v
def RIm (tc : Nat) (σ υ : HS) : Prop := (gI σ 0 6 = 0 ∧ gI υ 0 37 = 0) ∨ (gI σ 0 6 = 1 ∧ gI υ 0 37 = 1 ∧ ∃ n l t, (1 ≤ n ∧ n ≤ 12) ∧ (1 ≤ l ∧ l ≤ 12) ∧ t < tc ∧ VL n (gI σ 4) ∧ VJ n (gI σ 4) ∧ (gI σ 3 1 = nI n ∧ gI σ 0 4 = nI l ∧ gI σ 0 5 = nI t) ∧ (gI υ 0 38 = nI n ∧ gI υ 0 39 = nI l ∧ gI υ 0 40 = nI t) ∧ alk n (gI σ 4) (gI υ 9))
def RSh (σ υ : HS) : Prop := ∀ s, s < 4 → gR σ 15 s = some (44 + 2 * s) ∧ ((gI σ (44 + 2 * s) 1 = -1 ∧ gI υ 10 s = 0) ∨ (gI υ 10 s = 1 ∧ ∃ so sz, so ≤ 2 ∧ sz ≤ 40 ∧ gI σ (44 + 2 * s) 1 = nI so ∧ gI σ (44 + 2 * s) 2 = nI sz ∧ gI υ 11 s = nI so ∧ gI υ 12 s = nI sz ∧ ∀ k, k < sz → gI σ (44 + 2 * s + 1) k = gI υ 13 (40 * s + k)))
def RFx (σ : HS) : Prop := (∀ k, k < 12 → gR σ 8 k = some (52 + 2 * k) ∧ gI σ (52 + 2 * k) 0 = nI 3 ∧ gI σ (52 + 2 * k) 1 = nI k) ∧ gI σ 9 0 = nI 2 ∧ gI σ 9 1 = nI 0
def DOK (ev : Nat → Nat → Vf) (tc : Nat) (σ : HS) : Prop := (∀ j k, 19 ≤ j → gR σ j k = none) ∧ (gI σ 18 0 = 0 ∨ ∃ n l r, (1 ≤ n ∧ n ≤ 7) ∧ (1 ≤ l ∧ l ≤ 12) ∧ r < tc ∧ (gI σ 18 0 = nI n ∧ gI σ 18 1 = nI l ∧ gI σ 18 2 = nI r) ∧ gI σ 18 4 = dfin (ev r) n l)
def RTa (tc pc : Nat) (ev : Nat → Nat → Vf) (σ : HS) : Prop := TOK ev tc 10 2 0 σ ∧ DOK ev tc σ ∧ ∀ p, p < pc → ∀ q w, q ≤ 5 → w ≤ 11 → gI σ (76 + 2 * p) 0 = nI q → gI σ (76 + 2 * p) 1 = nI w → TOK ev tc (76 + 2 * p + 1) q w σ
def RRu (tc t : Nat) (σ υ : HS) : Prop := t < tc ∧ gI σ 0 2 = nI t ∧ gI υ 0 4 = nI t
def Rs0 (pc tc t : Nat) (ev : Nat → Nat → Vf) (σ υ : HS) : Prop := RPl pc σ υ ∧ RTx tc ev σ υ ∧ RRu tc t σ υ ∧ RTp σ υ ∧ RIm tc σ υ ∧ RSh σ υ ∧ RFx σ
def Rel (n lks pc tc t : Nat) (ev : Nat → Nat → Vf) (σ υ : HS) : Prop := RLy n lks σ υ ∧ Rs0 pc tc t ev σ υ ∧ RTa tc pc ev σ
def RelE (pc : Nat) (σ υ : HS) : Prop := ∃ n lks tc t ev, Rel n lks pc tc t ev σ υ
/-- what calls may change beside what is kept: all but tallies; tallies too; the reference's -/
def Wa (i k : Nat) : Prop := (i = 0 ∧ k = 1) ∨ i = 1 ∨ i = 2 ∨ (i = 3 ∧ 2 ≤ k) ∨ i = 5 ∨ i = 6 ∨ i = 14 ∨ i = 16 ∨ i = 17 ∨ (20 ≤ i ∧ i < 44 ∧ (i % 4 = 0 ∨ i % 4 = 3))
def Wt (i k : Nat) : Prop := Wa i k ∨ i = 10 ∨ i = 18 ∨ (77 ≤ i ∧ i % 2 = 1)
def Wm (i k : Nat) : Prop := (i = 0 ∧ (k = 8 ∨ k = 9 ∨ (10 ≤ k ∧ k ≤ 23) ∨ (27 ≤ k ∧ k ≤ 35))) ∨ i = 4 ∨ i = 7 ∨ i = 8
theorem RPl.off {pc : Nat} {σ υ σ' υ' : HS} (h : RPl pc σ υ) (o : Off Wt σ σ') (o2 : Off Wm υ υ') : RPl pc σ' υ' := by
  obtain ⟨h0, h1, h2, h3⟩ := h
  refine ⟨h0, ?_, ?_, fun k hk => ?_⟩
  · rw [o.1 _ _ (by unfold Wt Wa; omega)]; exact h1
  · rw [o2.1 _ _ (by unfold Wm; omega)]; exact h2
  · obtain ⟨a, q, w, b, c, d, e, f, g⟩ := h3 k hk
    refine ⟨by rw [o.2.2]; exact a, q, w, b, c, ?_, ?_, ?_, ?_⟩
    · rw [o.1 _ _ (by unfold Wt Wa; omega)]; exact d
    · rw [o.1 _ _ (by unfold Wt Wa; omega)]; exact e
    · rw [o2.1 _ _ (by unfold Wm; omega)]; exact f
    · rw [o2.1 _ _ (by unfold Wm; omega)]; exact g
theorem RTx.off {tc : Nat} {ev : Nat → Nat → Vf} {σ υ σ' υ' : HS} (h : RTx tc ev σ υ) (o : Off Wt σ σ') (o2 : Off Wm υ υ') : RTx tc ev σ' υ' := by
  obtain ⟨h0, ⟨h1, h2⟩, h3, h4⟩ := h
  refine ⟨h0, ⟨?_, ?_⟩, fun t ht => by rw [o.2.2]; exact h3 t ht, fun t ht => ?_⟩
  · rw [o.1 _ _ (by unfold Wt Wa; omega)]; exact h1
  · rw [o2.1 _ _ (by unfold Wm; omega)]; exact h2
  · obtain ⟨a, b, c⟩ := h4 t ht
    refine ⟨a, ?_, ?_⟩
    · rw [o.row (i := 20 + 4 * t + 1) (fun k => by unfold Wt Wa; omega), o.row (i := 20 + 4 * t + 2) (fun k => by unfold Wt Wa; omega)]; exact b
    · rw [o2.row (i := 1) (fun k => by unfold Wm; omega), o2.row (i := 2) (fun k => by unfold Wm; omega)]; exact c
theorem RRu.off {tc t : Nat} {σ υ σ' υ' : HS} (h : RRu tc t σ υ) (o : Off Wt σ σ') (o2 : Off Wm υ υ') : RRu tc t σ' υ' :=
  ⟨h.1, by rw [o.1 _ _ (by unfold Wt Wa; omega)]; exact h.2.1, by rw [o2.1 _ _ (by unfold Wm; omega)]; exact h.2.2⟩
theorem RTp.off {σ υ σ' υ' : HS} (h : RTp σ υ) (o : Off Wt σ σ') (o2 : Off Wm υ υ') : RTp σ' υ' := by
  obtain ⟨sz, h0, h1, h2, h3⟩ := h
  refine ⟨sz, h0, ?_, ?_, fun k hk => ?_⟩
  · rw [o.1 _ _ (by unfold Wt Wa; omega)]; exact h1
  · rw [o2.1 _ _ (by unfold Wm; omega)]; exact h2
  · rw [o.1 _ _ (by unfold Wt Wa; omega), o2.1 _ _ (by unfold Wm; omega)]; exact h3 k hk
theorem RIm.off {tc : Nat} {σ υ σ' υ' : HS} (h : RIm tc σ υ) (o : Off Wt σ σ') (o2 : Off Wm υ υ') : RIm tc σ' υ' := by
  have a6 : gI σ' 0 6 = gI σ 0 6 := o.1 _ _ (by unfold Wt Wa; omega)
  have b37 : ∀ k, 36 ≤ k → gI υ' 0 k = gI υ 0 k := fun k hk => o2.1 _ _ (by unfold Wm; omega)
  have r4 : gI σ' 4 = gI σ 4 := o.row (i := 4) (fun k => by unfold Wt Wa; omega)
  have r9 : gI υ' 9 = gI υ 9 := o2.row (i := 9) (fun k => by unfold Wm; omega)
  have a31 : gI σ' 3 1 = gI σ 3 1 := o.1 _ _ (by unfold Wt Wa; omega)
  have a4 : gI σ' 0 4 = gI σ 0 4 := o.1 _ _ (by unfold Wt Wa; omega)
  have a5 : gI σ' 0 5 = gI σ 0 5 := o.1 _ _ (by unfold Wt Wa; omega)
  unfold RIm
  rw [a6, r4, r9, a31, a4, a5, b37 37 (by omega), b37 38 (by omega), b37 39 (by omega), b37 40 (by omega)]
  exact h
theorem RSh.off {σ υ σ' υ' : HS} (h : RSh σ υ) (o : Off Wt σ σ') (o2 : Off Wm υ υ') : RSh σ' υ' := by
  intro s hs
  have a1 : ∀ k, gI σ' (44 + 2 * s) k = gI σ (44 + 2 * s) k := fun k => o.1 _ _ (by unfold Wt Wa; omega)
  have a2 : ∀ k, gI σ' (44 + 2 * s + 1) k = gI σ (44 + 2 * s + 1) k := fun k => o.1 _ _ (by unfold Wt Wa; omega)
  have b1 : ∀ i k, 10 ≤ i → gI υ' i k = gI υ i k := fun i k hi => o2.1 _ _ (by unfold Wm; omega)
  rw [o.2.2, a1, a1, b1 10 _ (by omega), b1 11 _ (by omega), b1 12 _ (by omega)]
  refine ⟨(h s hs).1, ?_⟩
  rcases (h s hs).2 with z | ⟨z0, so, sz, z1, z2, z3, z4, z5, z6, z7⟩
  · exact Or.inl z
  · exact Or.inr ⟨z0, so, sz, z1, z2, z3, z4, z5, z6, fun k hk => by rw [a2, b1 13 _ (by omega)]; exact z7 k hk⟩
theorem RFx.off {σ σ' : HS} (h : RFx σ) (o : Off Wt σ σ') : RFx σ' := by
  refine ⟨fun k hk => ?_, ?_, ?_⟩
  · rw [o.2.2, o.1 _ _ (by unfold Wt Wa; omega), o.1 _ _ (by unfold Wt Wa; omega)]; exact h.1 k hk
  · rw [o.1 _ _ (by unfold Wt Wa; omega)]; exact h.2.1
  · rw [o.1 _ _ (by unfold Wt Wa; omega)]; exact h.2.2
theorem Rs0.off {pc tc t : Nat} {ev : Nat → Nat → Vf} {σ υ σ' υ' : HS} (h : Rs0 pc tc t ev σ υ) (o : Off Wt σ σ') (o2 : Off Wm υ υ') : Rs0 pc tc t ev σ' υ' := by
  obtain ⟨h1, h2, h3, h4, h5, h6, h7⟩ := h
  exact ⟨h1.off o o2, h2.off o o2, h3.off o o2, h4.off o o2, h5.off o o2, h6.off o o2, h7.off o⟩
theorem TOK.same {ev : Nat → Nat → Vf} {tc i q w : Nat} {σ σ' : HS} (h : TOK ev tc i q w σ) (h1 : ∀ k, gI σ' i k = gI σ i k) (h2 : ∀ k, gJ σ' i k = gJ σ i k) : TOK ev tc i q w σ' := by
  unfold TOK TV at h ⊢
  rw [h1, h1, h1, h1, h1, h1, h2]
  exact h
theorem DOK.same {ev : Nat → Nat → Vf} {tc : Nat} {σ σ' : HS} (h : DOK ev tc σ) (h1 : ∀ k, gI σ' 18 k = gI σ 18 k) (r : ∀ j k, 19 ≤ j → gR σ' j k = gR σ j k) : DOK ev tc σ' := by
  refine ⟨fun j k hj => by rw [r j k hj]; exact h.1 j k hj, ?_⟩
  rw [h1, h1, h1, h1]
  exact h.2
theorem RTa.off {tc pc : Nat} {ev : Nat → Nat → Vf} {σ σ' : HS} (h : RTa tc pc ev σ) (o : Off Wa σ σ') : RTa tc pc ev σ' := by
  refine ⟨h.1.same (fun k => o.1 _ _ (by unfold Wa; omega)) (fun k => o.2.1 _ _ (by unfold Wa; omega)), h.2.1.same (fun k => o.1 _ _ (by unfold Wa; omega)) (fun j k _ => o.2.2 j k), fun p hp q w hq hw e1 e2 => ?_⟩
  rw [o.1 _ _ (by unfold Wa; omega)] at e1 e2
  exact (h.2.2 p hp q w hq hw e1 e2).same (fun k => o.1 _ _ (by unfold Wa; omega)) (fun k => o.2.1 _ _ (by unfold Wa; omega))
/-- scratch: neither the laying nor the looks -/
def Lx (i k : Nat) : Prop := (i = 1 ∧ k ≠ 1) ∨ i = 3 ∨ (5 ≤ i ∧ i ≠ 9)
def Lm (i k : Nat) : Prop := i = 0 ∧ k ≠ 8 ∧ k ≠ 9
theorem RLy.off {n lks : Nat} {σ υ σ' υ' : HS} (h : RLy n lks σ υ) {S S' : Nat → Nat → Prop} (o : Off S σ σ') (o2 : Off S' υ υ') (hS : ∀ i k, S i k → i ≠ 2 ∧ ¬ (i = 1 ∧ k = 1) ∧ ¬ (i = 0 ∧ k = 1)) (hS' : ∀ i k, S' i k → ¬ (i = 0 ∧ (k = 8 ∨ k = 9))) (ha : alk n (gI υ 4) (gI υ' 4)) : RLy n lks σ' υ' := by
  obtain ⟨h0, hl, hf, hj, ⟨hs, hk⟩, hs2, hk2, e⟩ := h
  have r2 : gI σ' 2 = gI σ 2 := o.row (i := 2) fun k z => (hS _ _ z).1 rfl
  refine ⟨h0, hl, by rw [r2]; exact hf, by rw [r2]; exact hj, ⟨?_, ?_⟩, ?_, ?_, fun k hk => by rw [r2, e k hk, ha k hk]⟩
  · rw [o.1 _ _ fun z => (hS _ _ z).2.1 ⟨rfl, rfl⟩]; exact hs
  · rw [o.1 _ _ fun z => (hS _ _ z).2.2 ⟨rfl, rfl⟩]; exact hk
  · rw [o2.1 _ _ fun z => hS' _ _ z ⟨rfl, Or.inl rfl⟩]; exact hs2
  · rw [o2.1 _ _ fun z => hS' _ _ z ⟨rfl, Or.inr rfl⟩]; exact hk2
theorem alk_rf {n : Nat} {f : Nat → Int32} : alk n f f := fun _ _ => rfl
/-- calls on the laying and the looks alone -/
theorem Rel.ly {n lks pc tc t n' lks' : Nat} {ev : Nat → Nat → Vf} {σ υ σ' υ' : HS} {S S' : Nat → Nat → Prop} (h : Rel n lks pc tc t ev σ υ) (hl : RLy n' lks' σ' υ') (o : Off S σ σ') (o2 : Off S' υ υ') (hS : ∀ i k, S i k → Wa i k) (hS' : ∀ i k, S' i k → Wm i k) : Rel n' lks' pc tc t ev σ' υ' :=
  ⟨hl, h.2.1.off (o.mono fun i k z => Or.inl (hS i k z)) (o2.mono hS'), h.2.2.off (o.mono hS)⟩
theorem SL_W : (∀ i k, SLx i k → Wa i k) ∧ (∀ i k, SLm i k → Wm i k) ∧ (∀ i k, SBx i k → Wa i k) ∧ (∀ i k, SBm i k → Wm i k) := by
  refine ⟨fun i k z => ?_, fun i k z => ?_, fun i k z => ?_, fun i k z => ?_⟩
  · unfold SLx at z; unfold Wa; omega
  · unfold SLm at z; unfold Wm; omega
  · unfold SBx SLx at z; unfold Wa; omega
  · unfold SBm SLm at z; unfold Wm; omega
theorem Op_boxes {pc : Nat} {σ υ : HS} (p1 : Int32) (h : RelE pc σ υ) : ∃ r σ' υ', c_X8_boxes p1 σ = some (r, σ') ∧ c_X9_boxes p1 υ = some (r, υ') ∧ RelE pc σ' υ' := by
  obtain ⟨n, lks, tc, t, ev, h⟩ := h
  obtain ⟨r, σ', υ', n', e1, e2, hl, o1, o2⟩ := op_boxes p1 h.1
  exact ⟨r, σ', υ', e1, e2, n', lks, tc, t, ev, h.ly hl o1 o2 SL_W.1 SL_W.2.1⟩
theorem Op_looks {pc : Nat} {σ υ : HS} (p1 : Int32) (h : RelE pc σ υ) : ∃ r σ' υ', c_X8_looks p1 σ = some (r, σ') ∧ c_X9_looks p1 υ = some (r, υ') ∧ RelE pc σ' υ' := by
  obtain ⟨n, lks, tc, t, ev, h⟩ := h
  obtain ⟨r, σ', υ', l', e1, e2, hl, o1, o2⟩ := op_looks p1 h.1
  exact ⟨r, σ', υ', e1, e2, n, l', tc, t, ev, h.ly hl o1 o2 SL_W.2.2.1 SL_W.2.2.2⟩
theorem Op_swap {pc : Nat} {σ υ : HS} (p1 p2 : Int32) (h : RelE pc σ υ) : ∃ r σ' υ', c_X8_swap p1 p2 σ = some (r, σ') ∧ c_X9_swap p1 p2 υ = some (r, υ') ∧ RelE pc σ' υ' := by
  obtain ⟨n, lks, tc, t, ev, h⟩ := h
  obtain ⟨r, σ', υ', e1, e2, hl, o1, o2⟩ := op_swap p1 p2 h.1
  exact ⟨r, σ', υ', e1, e2, n, lks, tc, t, ev, h.ly hl o1 o2 SL_W.1 SL_W.2.1⟩
theorem Op_empty {pc : Nat} {σ υ : HS} (p1 : Int32) (h : RelE pc σ υ) : ∃ r σ' υ', c_X8_empty p1 σ = some (r, σ') ∧ c_X9_empty p1 υ = some (r, υ') ∧ RelE pc σ' υ' := by
  obtain ⟨n, lks, tc, t, ev, h⟩ := h
  obtain ⟨r, σ', υ', e1, e2, hl, o1, o2⟩ := op_empty p1 h.1
  exact ⟨r, σ', υ', e1, e2, n, lks, tc, t, ev, h.ly hl o1 o2 SL_W.1 SL_W.2.1⟩
theorem Op_rings {pc : Nat} {σ υ : HS} (p1 : Int32) (h : RelE pc σ υ) : ∃ r σ' υ', c_X8_rings p1 σ = some (r, σ') ∧ c_X9_rings p1 υ = some (r, υ') ∧ RelE pc σ' υ' := by
  obtain ⟨n, lks, tc, t, ev, h⟩ := h
  obtain ⟨r, σ', υ', e1, e2, hl, o1, o2⟩ := op_rings p1 h.1
  exact ⟨r, σ', υ', e1, e2, n, lks, tc, t, ev, h.ly hl o1 o2 SL_W.1 SL_W.2.1⟩
theorem Op_box {pc : Nat} {σ υ : HS} (p1 p2 : Int32) (h : RelE pc σ υ) : ∃ r σ' υ', c_X8_box p1 p2 σ = some (r, σ') ∧ c_X9_box p1 p2 υ = some (r, υ') ∧ RelE pc σ' υ' := by
  have hh := h
  obtain ⟨n, lks, tc, t, ev, h⟩ := h
  obtain ⟨r, e1, e2⟩ := op_box p1 p2 h.1
  exact ⟨r, σ, υ, e1, e2, hh⟩
theorem Op_next {pc : Nat} {σ υ : HS} (p1 p2 p3 p4 : Int32) (h : RelE pc σ υ) : ∃ r σ' υ', c_X8_next p1 p2 p3 p4 σ = some (r, σ') ∧ c_X9_next p1 p2 p3 p4 υ = some (r, υ') ∧ RelE pc σ' υ' := by
  have hh := h
  obtain ⟨n, lks, tc, t, ev, h⟩ := h
  obtain ⟨r, e1, e2⟩ := op_next p1 p2 p3 p4 h.1 h.2.1.1
  exact ⟨r, σ, υ, e1, e2, hh⟩
/-- scratch on both sides, the laying not -/
theorem Rel.scr {n lks pc tc t : Nat} {ev : Nat → Nat → Vf} {σ υ σ' υ' : HS} {S S' : Nat → Nat → Prop} (h : Rel n lks pc tc t ev σ υ) (o : Off S σ σ') (o2 : Off S' υ υ') (hS : ∀ i k, S i k → Wa i k ∧ i ≠ 2 ∧ ¬ (i = 1 ∧ k = 1) ∧ ¬ (i = 0 ∧ k = 1)) (hS' : ∀ i k, S' i k → Wm i k ∧ ¬ (i = 0 ∧ (k = 8 ∨ k = 9))) (ha : alk n (gI υ 4) (gI υ' 4)) : Rel n lks pc tc t ev σ' υ' :=
  h.ly (h.1.off o o2 (fun i k z => (hS i k z).2) (fun i k z => (hS' i k z).2) ha) o o2 (fun i k z => (hS i k z).1) (fun i k z => (hS' i k z).1)
theorem Op_found {pc : Nat} {σ υ : HS} (p1 p2 : Int32) (h : RelE pc σ υ) : ∃ r σ' υ', c_X8_found p1 p2 σ = some (r, σ') ∧ c_X9_found p1 p2 υ = some (r, υ') ∧ RelE pc σ' υ' := by
  obtain ⟨n, lks, tc, t, ev, h⟩ := h
  obtain ⟨r, υ', e1, e2, o2⟩ := op_found p1 p2 h.1 h.2.1.1
  refine ⟨r, σ, υ', e1, e2, n, lks, tc, t, ev, h.scr (S := fun _ _ => False) Off.rf o2 (fun i k z => z.elim) (fun i k z => by unfold Wm; omega) ?_⟩
  rw [o2.row (i := 4) (fun k => by omega)]
  exact alk_rf
theorem Rel.CX {n lks pc tc t : Nat} {ev : Nat → Nat → Vf} {σ υ : HS} (h : Rel n lks pc tc t ev σ υ) : CX n lks t tc (ev t) 1 σ := by
  obtain ⟨⟨h0, hl, hf, hj, ⟨hs, hk⟩, hs2, hk2, e⟩, ⟨_, ⟨⟨a, b⟩, ⟨c, d⟩, f, g⟩, ⟨r1, r2, r3⟩, _⟩, _⟩ := h
  exact ⟨h0, hl, ⟨hk, hs, hs⟩, hf, hj, ⟨r1, b⟩, r2, c, f t (by omega), (g t r1).2.1, (g t r1).1⟩
theorem Rel.CM {n lks pc tc t : Nat} {ev : Nat → Nat → Vf} {σ υ : HS} (h : Rel n lks pc tc t ev σ υ) : CM n lks t (ev t) υ := by
  obtain ⟨⟨h0, hl, hf, hj, ⟨hs, hk⟩, hs2, hk2, e⟩, ⟨_, ⟨⟨a, b⟩, ⟨c, d⟩, f, g⟩, ⟨r1, r2, r3⟩, _⟩, _⟩ := h
  exact ⟨h0, hl, ⟨hs2, hk2⟩, hf.alk e, hj.alk e, r3, (g t r1).2.2, (g t r1).1⟩
theorem Op_count {pc : Nat} {σ υ : HS} (p1 : Int32) (h : RelE pc σ υ) : ∃ r σ' υ', c_X8_count p1 σ = some (r, σ') ∧ c_X9_count p1 υ = some (r, υ') ∧ RelE pc σ' υ' := by
  have hh := h
  obtain ⟨n, lks, tc, t, ev, ⟨h0, hl, hf, hj, ⟨hs, hk⟩, hs2, hk2, e⟩, ⟨⟨_, p1', p2', _⟩, ⟨_, ⟨c, d⟩, _⟩, ⟨r1, r2, r3⟩, ⟨sz, _, t1, t2, _⟩, _⟩, _⟩ := h
  rw [c_X8_count, c_X9_count, hs, hk, hs2, hk2, p1', p2', c, d, r2, r3, t1, t2]
  by_cases c0 : p1 = 0
  · rw [if_pos c0, if_pos c0]; exact ⟨_, _, _, rfl, rfl, hh⟩
  rw [if_neg c0, if_neg c0]
  by_cases c0 : p1 = 1
  · rw [if_pos c0, if_pos c0]; exact ⟨_, _, _, rfl, rfl, hh⟩
  rw [if_neg c0, if_neg c0]
  by_cases c0 : p1 = 2
  · rw [if_pos c0, if_pos c0]; exact ⟨_, _, _, rfl, rfl, hh⟩
  rw [if_neg c0, if_neg c0]
  by_cases c0 : p1 = 3
  · rw [if_pos c0, if_pos c0]; exact ⟨_, _, _, rfl, rfl, hh⟩
  rw [if_neg c0, if_neg c0]
  by_cases c0 : p1 = 4
  · rw [if_pos c0, if_pos c0]; exact ⟨_, _, _, rfl, rfl, hh⟩
  rw [if_neg c0, if_neg c0]
  by_cases c0 : p1 = 5
  · rw [if_pos c0, if_pos c0]; exact ⟨_, _, _, rfl, rfl, hh⟩
  rw [if_neg c0, if_neg c0]
  exact ⟨_, _, _, rfl, rfl, hh⟩
