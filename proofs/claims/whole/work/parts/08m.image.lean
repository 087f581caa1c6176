/-! IMAGE, BACK -/
theorem m_imageL : ∀ (F b : Nat) (σ : HS), 12 - b < F → b ≤ 12 → ∃ τ, c_X9_image_31 F (nI b) σ = some (gI σ 0 8, τ) ∧ (∀ k, b ≤ k → k < 12 → gI τ 9 k = gI σ 4 k) ∧ (∀ k, k < b → gI τ 9 k = gI σ 9 k) ∧ Off (fun i _ => i = 9) σ τ := by
  intro F
  induction F with
  | zero => intro b σ h; omega
  | succ F ih =>
    intro b σ hF hb
    rw [c_X9_image_31]
    by_cases c : 12 ≤ b
    · rw [if_pos (by rw [show (12 : Int32) = nI 12 from rfl, nI_leI (by omega) (by omega)]; exact c)]
      exact ⟨σ, rfl, fun k h1 h2 => by omega, fun k _ => rfl, Off.rf⟩
    · have i1 := inb_nI (show b < 12 by omega) (by omega)
      rw [if_neg (by rw [show (12 : Int32) = nI 12 from rfl, nI_leI (by omega) (by omega)]; exact c), if_pos i1, if_pos i1, lt_eqq, ix_nI (by omega), nI_1]
      obtain ⟨τ, e, h1, h2, o⟩ := ih (b + 1) (sI σ 9 b (gI σ 4 b)) (by omega) (by omega)
      refine ⟨τ, by rw [e, sI_i (by omega)], fun k ha hb => ?_, fun k hk => ?_, Off.tr (Off.sI rfl) o⟩
      · by_cases q : k = b
        · subst q
          rw [h2 k (by omega), sI_at]
        · rw [h1 k (by omega) hb, sI_i (by omega)]
      · rw [h2 k (by omega), sI_k (by omega)]
theorem m_bkL : ∀ (F b : Nat) (σ : HS), 12 - b < F → b ≤ 12 → ∃ τ, c_X9_back_36 F (nI b) σ = some (gI σ 0 8, τ) ∧ (∀ k, b ≤ k → k < 12 → gI τ 4 k = gI σ 9 k) ∧ (∀ k, k < b → gI τ 4 k = gI σ 4 k) ∧ Off (fun i _ => i = 4) σ τ := by
  intro F
  induction F with
  | zero => intro b σ h; omega
  | succ F ih =>
    intro b σ hF hb
    rw [c_X9_back_36]
    by_cases c : 12 ≤ b
    · rw [if_pos (by rw [show (12 : Int32) = nI 12 from rfl, nI_leI (by omega) (by omega)]; exact c)]
      exact ⟨σ, rfl, fun k h1 h2 => by omega, fun k _ => rfl, Off.rf⟩
    · have i1 := inb_nI (show b < 12 by omega) (by omega)
      rw [if_neg (by rw [show (12 : Int32) = nI 12 from rfl, nI_leI (by omega) (by omega)]; exact c), if_pos i1, if_pos i1, lt_eqq, ix_nI (by omega), nI_1]
      obtain ⟨τ, e, h1, h2, o⟩ := ih (b + 1) (sI σ 4 b (gI σ 9 b)) (by omega) (by omega)
      refine ⟨τ, by rw [e, sI_i (by omega)], fun k ha hb => ?_, fun k hk => ?_, Off.tr (Off.sI rfl) o⟩
      · by_cases q : k = b
        · subst q
          rw [h2 k (by omega), sI_at]
        · rw [h1 k (by omega) hb, sI_i (by omega)]
      · rw [h2 k (by omega), sI_k (by omega)]
theorem Op_image {pc : Nat} {σ υ : HS} (h : RelE pc σ υ) : ∃ r σ' υ', c_X8_image σ = some (r, σ') ∧ c_X9_image υ = some (r, υ') ∧ RelE pc σ' υ' := by
  obtain ⟨n, lks, tc, t, ev, h⟩ := h
  have H := h
  obtain ⟨hL, ⟨h1, h2, h3, h4, h5, h6, h7⟩, hTa⟩ := h
  have hL2 := hL
  obtain ⟨⟨h0, hn⟩, hl, hf, hj, ⟨hs, hk⟩, hs2, hk2, e⟩ := hL2
  obtain ⟨ru1, ru2, ru3⟩ := h3
  obtain ⟨s1, e1, g1, r1, o1⟩ := x_layAs (i0 := 3) (i1 := 1) (σ := σ) (by omega)
  obtain ⟨s2, es2⟩ : ∃ z, z = sI (sI (sI s1 0 4 (gI s1 0 1)) 0 5 (gI s1 0 2)) 0 6 1 := ⟨_, rfl⟩
  have o2 : Off (fun i k => (i = 0 ∧ 4 ≤ k ∧ k ≤ 6) ∨ (i = 3 ∧ k = 1) ∨ i = 4) σ s2 := by
    rw [es2]
    exact (o1.mono fun i k z => by omega).tr (Off.tr (Off.sI (by omega)) (Off.tr (Off.sI (by omega)) (Off.sI (by omega))))
  obtain ⟨u1, eu1⟩ : ∃ z, z = sI (sI (sI (sI υ 0 37 1) 0 38 (gI υ 0 8)) 0 39 (gI υ 0 9)) 0 40 (gI υ 0 4) := ⟨_, rfl⟩
  have k1 : ∀ k, k < 37 → gI u1 0 k = gI υ 0 k := fun k hk => by rw [eu1, sI_k (by omega), sI_k (by omega), sI_k (by omega), sI_k (by omega)]
  have q1 : Off (fun i k => (i = 0 ∧ 37 ≤ k ∧ k ≤ 40) ∨ i = 9) υ u1 := by
    rw [eu1]
    exact Off.tr (Off.sI (by omega)) (Off.tr (Off.sI (by omega)) (Off.tr (Off.sI (by omega)) (Off.sI (by omega))))
  obtain ⟨u2, e3, r3, -, o3⟩ := m_imageL FU 0 u1 (by rw [FU]; omega) (by omega)
  have o4 : Off (fun i k => (i = 0 ∧ 37 ≤ k ∧ k ≤ 40) ∨ i = 9) υ u2 := q1.tr (o3.mono fun i k z => by omega)
  have row4 : ∀ k, k < 12 → gI s2 4 k = gI σ 2 k := fun k hk => by rw [es2, sI_i (by omega), sI_i (by omega), sI_i (by omega)]; exact r1 k hk
  have row9 : ∀ k, k < 12 → gI u2 9 k = gI υ 4 k := fun k hk => by rw [r3 k (Nat.zero_le _) hk, q1.1 _ _ (by omega)]
  have f0 : ∀ k, k < 4 → gI s1 0 k = gI σ 0 k := fun k hk => o1.1 _ _ (by omega)
  have v0 : ∀ k, gI u2 0 k = gI u1 0 k := fun k => o3.1 _ _ (by omega)
  have A : ∀ i k, ¬ ((i = 0 ∧ 4 ≤ k ∧ k ≤ 6) ∨ (i = 3 ∧ k = 1) ∨ i = 4) → gI s2 i k = gI σ i k := o2.1
  have B : ∀ i k, ¬ ((i = 0 ∧ 37 ≤ k ∧ k ≤ 40) ∨ i = 9) → gI u2 i k = gI υ i k := o4.1
  have alkx : alk n (gI σ 2) (gI s2 4) := fun k hk => (row4 k (by omega)).symm
  refine ⟨nI n, s2, u2, ?_, ?_, n, lks, tc, t, ev, hL.of (fun i k z => A i k (by omega)) (fun i k z => B i k (by omega)), ⟨h1.of (fun i k z => A i k (by omega)) (fun i k z => B i k (by omega)) (fun k => o2.2.2 _ _), h2.of (fun i k z => A i k (by omega)) (fun i k z => B i k (by omega)) (fun k => o2.2.2 _ _), ⟨ru1, by rw [A _ _ (by omega)]; exact ru2, by rw [B _ _ (by omega)]; exact ru3⟩, h4.of (fun i k z => A i k (by omega)) (fun i k z => B i k (by omega)), ?_, h6.of (fun i k z => A i k (by omega)) (fun i k z => B i k (by omega)) (fun k => o2.2.2 _ _), h7.of (fun i k z => A i k (by omega)) (fun k => o2.2.2 _ _)⟩, hTa.of (fun i k z => A i k (by omega)) (fun i k z => o2.2.1 i k (by omega)) (fun i k _ => o2.2.2 i k)⟩
  · rw [c_X8_image, e1, bi1_s, lt_eqq, lt_eqq, lt_eqq, sI_k (by omega), ← es2, A 1 1 (by omega), hs]
  · have d : c_X9_image υ = c_X9_image_31 FU (nI 0) u1 := by
      rw [c_X9_image, lt_eqq, lt_eqq, lt_eqq, lt_eqq, sI_k (by omega), sI_k (by omega), sI_k (by omega), sI_k (by omega), sI_k (by omega), sI_k (by omega), ← eu1]
      rfl
    rw [d, e3, k1 8 (by omega), hs2]
  · refine Or.inr ⟨?_, ?_, n, lks, t, ⟨h0, hn⟩, hl, ru1, hf.alk alkx, hj.alk alkx, ⟨?_, ?_, ?_⟩, ⟨?_, ?_, ?_⟩, fun k hk => ?_⟩
    · rw [es2, sI_at]
    · rw [v0, eu1, sI_k (by omega), sI_k (by omega), sI_k (by omega), sI_at]
    · rw [es2, sI_i (by omega), sI_i (by omega), sI_i (by omega), g1, hs]
    · rw [es2, sI_k (by omega), sI_k (by omega), sI_at, f0 1 (by omega), hk]
    · rw [es2, sI_k (by omega), sI_at, f0 2 (by omega), ru2]
    · rw [v0, eu1, sI_k (by omega), sI_k (by omega), sI_at, hs2]
    · rw [v0, eu1, sI_k (by omega), sI_at, hk2]
    · rw [v0, eu1, sI_at, ru3]
    · rw [row4 k (by omega), row9 k (by omega), e k hk]
theorem Op_back {pc : Nat} {σ υ : HS} (h : RelE pc σ υ) : ∃ r σ' υ', c_X8_back σ = some (r, σ') ∧ c_X9_back υ = some (r, υ') ∧ RelE pc σ' υ' := by
  have hh := h
  obtain ⟨n, lks, tc, t, ev, h⟩ := h
  have H := h
  obtain ⟨hL, ⟨h1, h2, h3, h4, h5, h6, h7⟩, hTa⟩ := h
  rw [c_X8_back, c_X9_back]
  have h5' := h5
  rcases h5' with ⟨i1, i2⟩ | ⟨i1, i2, n', l', t', hn', hl', ht', hf, hj, ⟨a1, a2, a3⟩, ⟨b1, b2, b3⟩, e⟩
  · rw [i1, i2, if_pos rfl, if_pos rfl]
    exact ⟨_, σ, υ, rfl, rfl, hh⟩
  rw [i1, i2, if_neg one_ne, if_neg one_ne]
  obtain ⟨s1, e1, g1, r1, o1⟩ := x_layAs (i0 := 1) (i1 := 3) (σ := σ) (by omega)
  obtain ⟨s2, es2⟩ : ∃ z, z = sI (sI s1 0 1 (gI s1 0 4)) 0 2 (gI s1 0 5) := ⟨_, rfl⟩
  have o2 : Off (fun i k => (i = 0 ∧ (k = 1 ∨ k = 2)) ∨ (i = 1 ∧ k = 1) ∨ i = 2) σ s2 := by
    rw [es2]
    exact (o1.mono fun i k z => by omega).tr (Off.tr (Off.sI (by omega)) (Off.sI (by omega)))
  obtain ⟨u1, eu1⟩ : ∃ z, z = sI (sI (sI υ 0 8 (gI υ 0 38)) 0 9 (gI υ 0 39)) 0 4 (gI υ 0 40) := ⟨_, rfl⟩
  have q1 : Off (fun i k => (i = 0 ∧ (k = 4 ∨ k = 8 ∨ k = 9)) ∨ i = 4) υ u1 := by
    rw [eu1]
    exact Off.tr (Off.sI (by omega)) (Off.tr (Off.sI (by omega)) (Off.sI (by omega)))
  obtain ⟨u2, e3, r3, -, o3⟩ := m_bkL FU 0 u1 (by rw [FU]; omega) (by omega)
  have o4 : Off (fun i k => (i = 0 ∧ (k = 4 ∨ k = 8 ∨ k = 9)) ∨ i = 4) υ u2 := q1.tr (o3.mono fun i k z => by omega)
  have row2 : ∀ k, k < 12 → gI s2 2 k = gI σ 4 k := fun k hk => by rw [es2, sI_i (by omega), sI_i (by omega)]; exact r1 k hk
  have row4 : ∀ k, k < 12 → gI u2 4 k = gI υ 9 k := fun k hk => by rw [r3 k (Nat.zero_le _) hk, q1.1 _ _ (by omega)]
  have f0 : ∀ k, 3 ≤ k → gI s1 0 k = gI σ 0 k := fun k hk => o1.1 _ _ (by omega)
  have v0 : ∀ k, gI u2 0 k = gI u1 0 k := fun k => o3.1 _ _ (by omega)
  have v8 : gI u1 0 8 = nI n' := by rw [eu1, sI_k (by omega), sI_k (by omega), sI_at, b1]
  have A : ∀ i k, ¬ ((i = 0 ∧ (k = 1 ∨ k = 2)) ∨ (i = 1 ∧ k = 1) ∨ i = 2) → gI s2 i k = gI σ i k := o2.1
  have B : ∀ i k, ¬ ((i = 0 ∧ (k = 4 ∨ k = 8 ∨ k = 9)) ∨ i = 4) → gI u2 i k = gI υ i k := o4.1
  have s11 : gI s2 1 1 = nI n' := by rw [es2, sI_i (by omega), sI_i (by omega), g1, a1]
  have alkx : alk n' (gI σ 4) (gI s2 2) := fun k hk => (row2 k (by omega)).symm
  refine ⟨nI n', s2, u2, ?_, ?_, n', l', tc, t', ev, ⟨hn', hl', hf.alk alkx, hj.alk alkx, ⟨s11, ?_⟩, ?_, ?_, fun k hk => ?_⟩, ⟨h1.of (fun i k z => A i k (by omega)) (fun i k z => B i k (by omega)) (fun k => o2.2.2 _ _), h2.of (fun i k z => A i k (by omega)) (fun i k z => B i k (by omega)) (fun k => o2.2.2 _ _), ⟨ht', ?_, ?_⟩, h4.of (fun i k z => A i k (by omega)) (fun i k z => B i k (by omega)), h5.of (fun i k z => A i k (by omega)) (fun i k z => B i k (by omega)), h6.of (fun i k z => A i k (by omega)) (fun i k z => B i k (by omega)) (fun k => o2.2.2 _ _), h7.of (fun i k z => A i k (by omega)) (fun k => o2.2.2 _ _)⟩, hTa.of (fun i k z => A i k (by omega)) (fun i k z => o2.2.1 i k (by omega)) (fun i k _ => o2.2.2 i k)⟩
  · rw [e1, bi1_s, lt_eqq, lt_eqq, sI_k (by omega), ← es2, s11]
  · have d : (lt (sI υ 0 8 (gI υ 0 38)) fun s2 => lt (sI s2 0 9 (gI s2 0 39)) fun s4 => lt (sI s4 0 4 (gI s4 0 40)) fun s6 => c_X9_back_36 FU 0 s6) = c_X9_back_36 FU (nI 0) u1 := by
      rw [lt_eqq, lt_eqq, lt_eqq, sI_k (by omega), sI_k (by omega), sI_k (by omega), ← eu1]
      rfl
    rw [d, e3, v8]
  · rw [es2, sI_k (by omega), sI_at, f0 4 (by omega), a2]
  · rw [v0, v8]
  · rw [v0, eu1, sI_k (by omega), sI_at, b2]
  · rw [row2 k (by omega), row4 k (by omega), e k hk]
  · rw [es2, sI_at, f0 5 (by omega), a3]
  · rw [v0, eu1, sI_at, b3]
