/-! THE FIRST RELATION: what both constructors leave -/
def bT (k : Nat) : Nat := ([104, 111, 109, 101, 32, 102, 111, 117, 110, 100, 32, 61, 32, 109, 101, 110, 32, 59, 32, 115, 111, 109, 101, 32, 48, 32, 59, 32, 98, 101, 116, 32, 109, 101, 110, 32, 45, 32, 108, 111, 110, 103, 101, 115, 116, 32, 59] : List Nat).getD k 32
theorem Ev_uniq {n m : Nat} {c : List Nat} {v v' : Vf} (h : Ev n c v) (h' : Ev m c v') (hn : n ≤ 40) (hm : m ≤ 40) : v = v' := by
  funext f
  obtain ⟨σ, eσ⟩ : ∃ z : HS, z = sA (sI z0 20 4 0) 16 f := ⟨_, rfl⟩
  have e16 : gI σ 16 = f := by rw [eσ]; funext k; rw [gI_sA, if_pos rfl]
  have hs : StX 20 [] σ := ⟨by rw [eσ]; rfl, fun k hk => absurd hk (Nat.not_lt_zero k)⟩
  obtain ⟨s1, a1, b1, _⟩ := h.2 20 σ [] (by omega) (by rw [List.length_nil]; omega) hs
  obtain ⟨s2, a2, b2, _⟩ := h'.2 20 σ [] (by omega) (by rw [List.length_nil]; omega) hs
  rw [a1] at a2
  cases a2
  have c1 := b1.2 0 (by simp)
  have c2 := b2.2 0 (by simp)
  rw [e16] at c1 c2
  have d1 : gI s1 23 0 = v f := c1
  have d2 : gI s1 23 0 = v' f := c2
  rw [← d1, ← d2]
theorem PPt_same {g g' : Nat → Int32} {k k' p p' : Nat} (h : (PPt g k p).1 = true) (h' : (PPt g' k' p').1 = true) (hc : (PPt g k p).2.2.1 = (PPt g' k' p').2.2.1) : (PPt g k p).2.2.2 = (PPt g' k' p').2.2.2 :=
  Ev_uniq (PPt_ev h) (by rw [hc]; exact PPt_ev h') (by omega) (by omega)
theorem Pok47 : Pok (gB bT 47) := by unfold Pok; decide +kernel
theorem Pok48 : Pok (gB bT 48) := by unfold Pok; decide +kernel
theorem Pcs_same : (P0t (gB bT 47)).2.2.1 = (P0t (gB bT 48)).2.2.1 ∧ (P1t (gB bT 47)).2.2.1 = (P1t (gB bT 48)).2.2.1 ∧ (P2t (gB bT 47)).2.2.1 = (P2t (gB bT 48)).2.2.1 := by decide +kernel
theorem Pvl_same : Pvl (gB bT 48) = Pvl (gB bT 47) := by
  have e0 : (P0t (gB bT 47)).2.2.2 = (P0t (gB bT 48)).2.2.2 := PPt_same Pok47.1 Pok48.1 Pcs_same.1
  have e1 : (P1t (gB bT 47)).2.2.2 = (P1t (gB bT 48)).2.2.2 := PPt_same Pok47.2.1 Pok48.2.1 Pcs_same.2.1
  have e2 : (P2t (gB bT 47)).2.2.2 = (P2t (gB bT 48)).2.2.2 := PPt_same Pok47.2.2.1 Pok48.2.2.1 Pcs_same.2.2
  funext wh
  unfold Pvl
  rw [e0, e1, e2]
theorem bT_x : ∀ k, k < 47 → sCh 12 k = nI (bT k) := by decide +kernel
theorem bT_lt : ∀ k, k < 48 → bT k < 256 := by decide +kernel
theorem x_addL : ∀ (F m i : Nat) (σ : HS), m < F → i + m = 47 → gI σ 12 1 = nI i → (∀ k, k < i → gI σ 13 k = nI (bT k)) → ∃ τ, c_X8_init_252 F (nI i) σ = c_X8_init_280 τ ∧ gI τ 12 1 = nI 47 ∧ (∀ k, k < 47 → gI τ 13 k = nI (bT k)) ∧ Off (fun i k => i = 13 ∨ (i = 12 ∧ k = 1)) σ τ := by
  intro F
  induction F with
  | zero => intro m i σ h; omega
  | succ F ih =>
    intro m i σ hF hi h1 h2
    rw [c_X8_init_252, show sLn 12 = nI 47 from rfl]
    cases m with
    | zero =>
      have : i = 47 := by omega
      subst this
      rw [if_pos (by rw [nI_leI (by omega) (by omega)]; omega)]
      exact ⟨σ, rfl, h1, h2, Off.rf⟩
    | succ m =>
      have hi47 : i < 47 := by omega
      rw [if_neg (by rw [nI_leI (by omega) (by omega)]; omega), if_pos (show sIn 12 (nI i) = true from (inb3 hi47 (by omega)).1), c_X5_add, h1, if_neg (by rw [show (160 : Int32) = nI 160 from rfl, nI_leI (by omega) (by omega)]; omega), if_pos (inb_nI (by omega) (by omega)), lt_eqq, ix_nI (by omega), bT_x i hi47, lt_eqq, sI_i (by omega), h1, bi1_s, nI_1]
      obtain ⟨τ, e, k1, k2, o⟩ := ih m (i + 1) (sI (sI σ 13 i (nI (bT i))) 12 1 (nI (i + 1))) (by omega) (by omega) (sI_at _ _ _ _) (fun k hk => by
        rw [sI_i (by omega)]
        by_cases q : k = i
        · subst q
          exact sI_at _ _ _ _
        · rw [sI_k q]
          exact h2 k (by omega))
      exact ⟨τ, e, k1, k2, Off.tr (Off.sI (Or.inl rfl)) (Off.tr (Off.sI (Or.inr ⟨rfl, rfl⟩)) o)⟩
theorem shL_R : ∀ (n i : Nat) (σ : HS), (∀ j k, 19 ≤ j → gR σ j k = none) → ∀ j k, 19 ≤ j → gR (shL n i σ) j k = none := by
  intro n
  induction n with
  | zero => intro i σ h; exact h
  | succ n ih =>
    intro i σ h
    rw [shL]
    exact ih _ _ fun j k hj => by rw [gR_sR, if_neg (by omega)]; exact h j k hj
theorem txL_R : ∀ (n i : Nat) (σ : HS), (∀ j k, 19 ≤ j → gR σ j k = none) → ∀ j k, 19 ≤ j → gR (txL n i σ) j k = none := by
  intro n
  induction n with
  | zero => intro i σ h; exact h
  | succ n ih =>
    intro i σ h
    rw [txL]
    exact ih _ _ fun j k hj => by rw [gR_sR, if_neg (by omega)]; exact h j k hj
theorem plL_R : ∀ (n i : Nat) (σ : HS), (∀ j k, 19 ≤ j → gR σ j k = none) → ∀ j k, 19 ≤ j → gR (plL n i σ) j k = none := by
  intro n
  induction n with
  | zero => intro i σ h; exact h
  | succ n ih =>
    intro i σ h
    rw [plL]
    exact ih _ _ fun j k hj => by rw [gR_sR, if_neg (by omega)]; exact h j k hj
def xL : HS := plL 12 0 (txL 6 0 (shL 4 0 (sA (sI x0 1 1 (nI 6)) 2 (own 6 (gI x0 2) 0))))
theorem xL_R : ∀ j k, 19 ≤ j → gR xL j k = none := plL_R _ _ _ (txL_R _ _ _ (shL_R _ _ _ fun _ _ _ => rfl))
theorem xL_f : (gI xL 0 1 = nI 3 ∧ gI xL 1 1 = nI 6 ∧ gI xL 0 2 = nI 0 ∧ gI xL 0 6 = 0 ∧ gI xL 0 8 = 0 ∧ gI xL 12 1 = nI 0 ∧ gI xL 9 0 = nI 2 ∧ gI xL 9 1 = nI 0 ∧ gI xL 10 0 = 0 ∧ gI xL 18 0 = 0) ∧ (∀ k, k < 6 → gI xL 2 k = nI k) ∧ (∀ s, s < 4 → gR xL 15 s = some (44 + 2 * s) ∧ gI xL (44 + 2 * s) 1 = -1) ∧ (∀ t, t < 6 → gR xL 11 t = some (20 + 4 * t)) ∧ ∀ k, k < 12 → gR xL 8 k = some (52 + 2 * k) ∧ gI xL (52 + 2 * k) 0 = nI 3 ∧ gI xL (52 + 2 * k) 1 = nI k := by decide +kernel
abbrev mIf (υ : HS) : Prop := (gI υ 0 8 = nI 6 ∧ gI υ 0 9 = nI 3 ∧ gI υ 0 26 = nI 0 ∧ gI υ 0 3 = nI 1 ∧ gI υ 0 4 = nI 0 ∧ gI υ 0 6 = nI 0 ∧ gI υ 0 37 = 0 ∧ gI υ 2 0 = nI 48) ∧ (∀ k, k < 4 → gI υ 10 k = 0) ∧ (∀ k, k < 48 → gI υ 1 k = nI (bT k)) ∧ ∀ k, k < 6 → gI υ 4 k = nI k
def mIo (o : Option HS) : Bool := match o with
  | none => false
  | some υ => decide (mIf υ)
theorem mI_dec : mIo c_X9_init = true := by decide +kernel
theorem mI_ok : ∃ υ, c_X9_init = some υ ∧ mIf υ := by
  have h := mI_dec
  cases e : c_X9_init with
  | none => rw [e] at h; cases h
  | some υ => rw [e] at h; exact ⟨υ, rfl, of_decide_eq_true h⟩
theorem first_rel : ∃ σ υ, c_X8_init = some σ ∧ c_X9_init = some υ ∧ RelE 0 σ υ := by
  obtain ⟨υ, eυ, ⟨y8, y9, y26, y3, y4, y6, y37, y20⟩, yi, yt, yl⟩ := mI_ok
  obtain ⟨⟨x1, x2, x3, x4, x5, x6, x7, x8, x9, x10⟩, xl, xs, xt, xp⟩ := xL_f
  obtain ⟨τ, f1, k1, k2, o1⟩ := x_addL FU 47 0 xL (by rw [FU]; omega) rfl x6 (fun k hk => absurd hk (Nat.not_lt_zero k))
  have hB : 47 ≤ 160 ∧ ∀ k, k < 47 → bT k < 256 := ⟨by omega, fun k hk => bT_lt k (by omega)⟩
  obtain ⟨x, s1, e1, hx, A1, J1, G1⟩ := x_readText (b := bT) (sz := 47) (j := 20) (σ := τ) hB k1 k2 (by omega)
  rcases hx with ⟨hP, rfl, hcs, hcl, g0, g1, g2⟩ | ⟨hP, _⟩
  rotate_left
  · exact absurd Pok47 hP
  have eσ : c_X8_init = some (sI (sI s1 12 1 0) 0 12 1) := by
    have eo := x_own (i0 := 1) (n := 6) (σ := x0) (by decide) (by decide)
    rw [show nI 6 = 6 from by decide] at eo
    rw [c_X8_init, eo, bi1_s]
    refine (show _ = c_X8_init_252 FU (nI 0) xL from rfl).trans (f1.trans ?_)
    rw [c_X8_init_280, show gR τ 11 (ix 0) = some 20 from by rw [o1.2.2]; exact xt 0 (by omega), mr_s, e1, bi2_s, c_X5_clear, lt_eqq, bi1_s, lt_eqq]
  refine ⟨_, υ, eσ, eυ, 6, 3, 1, 0, fun _ => Pvl (gB bT 47), ?_⟩
  obtain ⟨σ, hσ⟩ : ∃ z, z = sI (sI s1 12 1 0) 0 12 1 := ⟨_, rfl⟩
  rw [← hσ]
  have A : ∀ i k, ¬ (i = 12 ∨ i = 13 ∨ i = 14 ∨ i = 20 ∨ i = 21 ∨ i = 22 ∨ (i = 0 ∧ k = 12)) → gI σ i k = gI xL i k := by
    intro i k z
    rw [hσ, gI_sI, if_neg (by omega), gI_sI, if_neg (by omega), A1 i k (by unfold SPy SPx; omega), o1.1 i k (by omega)]
  have G : ∀ i k, i ≠ 14 → gR σ i k = gR xL i k := by
    intro i k z
    rw [hσ, gR_sI, gR_sI, G1 i k z, o1.2.2]
  have c2 : ∀ k, k < 6 → gI σ 2 k = nI k := fun k hk => by rw [A 2 k (by omega)]; exact xl k hk
  refine ⟨⟨by omega, by omega, fun b hb => Or.inr ⟨b, hb, c2 b hb⟩, fun a b ha hb e _ => ?_, ⟨?_, ?_⟩, y8, y9, fun k hk => ?_⟩, ⟨⟨by omega, ?_, y26, fun k hk => absurd hk (Nat.not_lt_zero k)⟩, ⟨by omega, ⟨?_, y3⟩, fun t ht => ?_, fun t ht => ?_⟩, ⟨by omega, ?_, y4⟩, ⟨0, by omega, ?_, y6, fun k hk => absurd hk (Nat.not_lt_zero k)⟩, Or.inl ⟨?_, y37⟩, fun s hs => ⟨?_, Or.inl ⟨?_, yi s hs⟩⟩, fun k hk => ⟨?_, ?_, ?_⟩, ?_, ?_⟩, Or.inl ?_, ⟨fun j k hj => ?_, Or.inl ?_⟩, fun p hp => absurd hp (Nat.not_lt_zero p)⟩
  · rw [c2 a ha, c2 b hb] at e
    exact nI_inj (by omega) (by omega) e
  · rw [A 1 1 (by omega)]; exact x2
  · rw [A 0 1 (by omega)]; exact x1
  · rw [c2 k hk, yl k hk]
  · rw [A 0 8 (by omega)]; exact x5
  · rw [hσ, sI_at]; rfl
  · rw [G 11 t (by omega)]; exact xt t ht
  · obtain rfl : t = 0 := by omega
    refine ⟨evf_of Pok47, evX_of Pok47 hcl (fun k hk => ?_) ?_ ?_ ?_, ?_⟩
    · rw [hσ, sI_i (by omega), sI_i (by omega)]; exact hcs.2 k hk
    · rw [hσ, sI_i (by omega), sI_i (by omega)]; exact g0
    · rw [hσ, sI_i (by omega), sI_i (by omega)]; exact g1
    · rw [hσ, sI_i (by omega), sI_i (by omega)]; exact g2
    · rw [y20, ← Pvl_same]
      exact evM_of Pok48 ⟨by omega, bT_lt⟩ (by omega) (fun k hk => by rw [show 160 * 0 + k = k by omega]; exact yt k hk)
  · rw [A 0 2 (by omega)]; exact x3
  · rw [hσ, sI_i (by omega), sI_at]; rfl
  · rw [A 0 6 (by omega)]; exact x4
  · rw [G 15 s (by omega)]; exact (xs s hs).1
  · rw [A (44 + 2 * s) 1 (by omega)]; exact (xs s hs).2
  · rw [G 8 k (by omega)]; exact (xp k hk).1
  · rw [A (52 + 2 * k) 0 (by omega)]; exact (xp k hk).2.1
  · rw [A (52 + 2 * k) 1 (by omega)]; exact (xp k hk).2.2
  · rw [A 9 0 (by omega)]; exact x7
  · rw [A 9 1 (by omega)]; exact x8
  · rw [A 10 0 (by omega)]; exact x9
  · rw [G j k (by omega)]; exact xL_R j k hj
  · rw [A 18 0 (by omega)]; exact x10
