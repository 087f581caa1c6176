/-! SHEETS -/
theorem x_shAt {p : Int32} {σ υ : HS} (h : RSh σ υ) : ((p < 0 ∨ (¬ p < 0 ∧ nI 4 ≤ p)) ∧ c_X8_sheetAt p σ = some (none, σ)) ∨ ∃ s, s < 4 ∧ p = nI s ∧ c_X8_sheetAt p σ = some (some (44 + 2 * s), σ) := by
  rcases box_cases p 4 (by omega) with c | c | ⟨s, hs, rfl⟩
  · exact Or.inl ⟨Or.inl c, by rw [c_X8_sheetAt, if_pos c]⟩
  · exact Or.inl ⟨Or.inr c, by rw [c_X8_sheetAt, if_neg c.1, if_pos (show (4 : Int32) ≤ p from c.2)]⟩
  · refine Or.inr ⟨s, hs, rfl, ?_⟩
    rw [c_X8_sheetAt, if_neg (nI_pos (by omega)), if_neg (by rw [show (4 : Int32) = nI 4 from rfl, nI_leI (by omega) (by omega)]; omega), if_pos (inb_nI hs (by omega)), ix_nI (by omega), (h s hs).1]
theorem m_shAt {p : Int32} {υ : HS} : c_X9_isSheet p υ = some (if p < 0 then 0 else if nI 4 ≤ p then 0 else 1, υ) := by
  have e : c_X9_in p.toInt64 0 3 υ = some (if p < 0 then 0 else if 3 < p then 0 else 1, υ) := in_is (a := 0) (b := 3)
  have k : (3 : Int32) < p ↔ nI 4 ≤ p := le_pred (n := 4) (by omega) (by omega)
  rw [c_X9_isSheet, e, bi2_s]
  by_cases c : p < 0
  · rw [if_pos c, if_pos c]; rfl
  rw [if_neg c, if_neg c]
  by_cases c2 : nI 4 ≤ p
  · rw [if_pos (k.mpr c2), if_pos c2]; rfl
  · rw [if_neg (fun z => c2 (k.mp z)), if_neg c2]; rfl
theorem sh_no {p : Int32} (c : p < 0 ∨ (¬ p < 0 ∧ nI 4 ≤ p)) : (if p < 0 then (0 : Int32) else if nI 4 ≤ p then 0 else 1) = 0 := has_no c
theorem sh_yes {s : Nat} (h : s < 4) : (if nI s < 0 then (0 : Int32) else if nI 4 ≤ nI s then 0 else 1) = 1 := has_yes h (by omega)
theorem below_g {p : Int32} {n : Nat} {σ : HS} (hn : n < 2 ^ 31) : c_X9_in p.toInt64 0 (nI n - 1).toInt64 σ = some (if p < 0 then 0 else if nI n ≤ p then 0 else 1, σ) := by
  have e : c_X9_in p.toInt64 0 (nI n - 1).toInt64 σ = some (if p < 0 then 0 else if nI n - 1 < p then 0 else 1, σ) := in_is (a := 0)
  rw [e]
  by_cases c : p < 0
  · rw [if_pos c, if_pos c]
  rw [if_neg c, if_neg c]
  by_cases c2 : nI n ≤ p
  · rw [if_pos c2, if_pos]
    rcases Nat.eq_zero_or_pos n with z | z
    · subst z
      rw [show nI 0 - 1 = (-1 : Int32) by decide, Int32.lt_iff_toInt_lt, show (-1 : Int32).toInt = -1 by decide]
      rw [Int32.lt_iff_toInt_lt, show (0 : Int32).toInt = 0 by decide] at c
      omega
    · rw [pred_nI z, le_pred z hn]; exact c2
  · rw [if_neg c2, if_neg]
    rcases Nat.eq_zero_or_pos n with z | z
    · subst z
      exfalso
      apply c2
      rw [nI_0, le_iff_nlt]
      exact c
    · rw [pred_nI z, le_pred z hn]; exact c2
theorem has_yes' {b n : Nat} (hb : b < n) (hn : n < 2 ^ 31) : (if nI b < 0 then (0 : Int32) else if nI n ≤ nI b then 0 else 1) = 1 := by
  rw [if_neg (nI_pos (by omega)), if_neg (by rw [nI_leI hn (by omega)]; omega)]
def ZSx (i _k : Nat) : Prop := 44 ≤ i ∧ i < 52
def ZSm (i _k : Nat) : Prop := 10 ≤ i ∧ i ≤ 13
theorem Rel.sh {n lks pc tc t : Nat} {ev : Nat → Nat → Vf} {σ υ σ' υ' : HS} (h : Rel n lks pc tc t ev σ υ) (o : Off ZSx σ σ') (o2 : Off ZSm υ υ') (hS : RSh σ' υ') : Rel n lks pc tc t ev σ' υ' := by
  obtain ⟨hL, ⟨h1, h2, h3, h4, h5, h6, h7⟩, hTa⟩ := h
  have A : ∀ i k, ¬ ZSx i k → gI σ' i k = gI σ i k := o.1
  have B : ∀ i k, ¬ ZSm i k → gI υ' i k = gI υ i k := o2.1
  exact ⟨hL.of (fun i k z => A i k (by unfold ZSx; omega)) (fun i k z => B i k (by unfold ZSm; omega)), ⟨h1.of (fun i k z => A i k (by unfold ZSx; omega)) (fun i k z => B i k (by unfold ZSm; omega)) (fun k => o.2.2 _ _), h2.of (fun i k z => A i k (by unfold ZSx; omega)) (fun i k z => B i k (by unfold ZSm; omega)) (fun k => o.2.2 _ _), h3.of (A _ _ (by unfold ZSx; omega)) (B _ _ (by unfold ZSm; omega)), h4.of (fun i k z => A i k (by unfold ZSx; omega)) (fun i k z => B i k (by unfold ZSm; omega)), h5.of (fun i k z => A i k (by unfold ZSx; omega)) (fun i k z => B i k (by unfold ZSm; omega)), hS, h7.of (fun i k z => A i k (by unfold ZSx; omega)) (fun k => o.2.2 _ _)⟩, hTa.of (fun i k z => A i k (by unfold ZSx; omega)) (fun i k z => o.2.1 i k (by unfold ZSx; omega)) (fun i k _ => o.2.2 i k)⟩
theorem x_zeroL {j : Nat} : ∀ (F x : Nat) (σ : HS), 40 - x < F → x ≤ 40 → ∃ τ, c_X3_become_21 F j (nI x) σ = some τ ∧ (∀ k, x ≤ k → k < 40 → gI τ (j + 1) k = 0) ∧ (∀ k, k < x → gI τ (j + 1) k = gI σ (j + 1) k) ∧ Off (fun i _ => i = j + 1) σ τ := by
  intro F
  induction F with
  | zero => intro b σ h; omega
  | succ F ih =>
    intro b σ hF hb
    rw [c_X3_become_21]
    by_cases c : 40 ≤ b
    · rw [if_pos (by rw [show (40 : Int32) = nI 40 from rfl, nI_leI (by omega) (by omega)]; exact c)]
      exact ⟨σ, rfl, fun k h1 h2 => by omega, fun k _ => rfl, Off.rf⟩
    · rw [if_neg (by rw [show (40 : Int32) = nI 40 from rfl, nI_leI (by omega) (by omega)]; exact c), if_pos (inb_nI (by omega) (by omega)), lt_eqq, ix_nI (by omega), nI_1]
      obtain ⟨τ, e, h1, h2, o⟩ := ih (b + 1) (sI σ (j + 1) b 0) (by omega) (by omega)
      refine ⟨τ, e, fun k ha hb => ?_, fun k hk => ?_, Off.tr (Off.sI rfl) o⟩
      · by_cases q : k = b
        · subst q
          rw [h2 k (by omega), sI_at]
        · exact h1 k (by omega) hb
      · rw [h2 k (by omega), sI_k (by omega)]
theorem x_become {j sz : Nat} {so : Int32} {σ : HS} (hz : sz ≤ 40) : ∃ τ, c_X3_become j so (nI sz) σ = some τ ∧ gI τ j 1 = so ∧ gI τ j 2 = nI sz ∧ (∀ k, k < 40 → gI τ (j + 1) k = 0) ∧ Off (fun i _ => i = j ∨ i = j + 1) σ τ := by
  obtain ⟨τ, e, h1, -, o⟩ := x_zeroL (j := j) FU 0 (sI (sI σ j 1 so) j 2 (nI sz)) (by rw [FU]; omega) (by omega)
  have em : jxmax 0 (jxmin (nI sz) 40) = nI sz := by
    rw [show (40 : Int32) = nI 40 from rfl, jxmin_nI (by omega) (by omega), Nat.min_eq_left hz, ← nI_0, jxmax_nI (by omega) (by omega), Nat.max_eq_right (by omega)]
  refine ⟨τ, ?_, ?_, ?_, fun k hk => h1 k (Nat.zero_le _) hk, Off.tr (Off.sI (Or.inl rfl)) (Off.tr (Off.sI (Or.inl rfl)) (o.mono fun i k z => Or.inr z))⟩
  · rw [c_X3_become, lt_eqq, lt_eqq, em]
    exact e
  · rw [o.1 _ _ (by omega), sI_k (by omega), sI_at]
  · rw [o.1 _ _ (by omega), sI_at]
theorem m_zeroL {s so sz : Nat} (hs : s < 4) (hso : so ≤ 2) (hz : sz ≤ 40) : ∀ (F x : Nat) (σ : HS), sz - x < F → x ≤ sz → ∃ τ, c_X9_sheet_77 F (nI s) (nI so) (nI sz) (nI x) σ = some (1, τ) ∧ (∀ k, x ≤ k → k < sz → gI τ 13 (40 * s + k) = 0) ∧ (∀ k, k < 40 * s + x ∨ 40 * s + sz ≤ k → gI τ 13 k = gI σ 13 k) ∧ Off (fun i _ => i = 13) σ τ := by
  intro F
  induction F with
  | zero => intro b σ h; omega
  | succ F ih =>
    intro b σ hF hb
    rw [c_X9_sheet_77]
    by_cases c : sz ≤ b
    · rw [if_pos (by rw [nI_leI (by omega) (by omega)]; exact c)]
      exact ⟨σ, rfl, fun k h1 h2 => by omega, fun k _ => rfl, Off.rf⟩
    · rw [if_neg (by rw [nI_leI (by omega) (by omega)]; exact c), if_neg (nI_pos (by omega)), show (40 : Int32) = nI 40 from rfl, nI_mul, nI_add, if_pos (inb_nI (by omega) (by omega)), lt_eqq, ix_nI (by omega), nI_1]
      obtain ⟨τ, e, h1, h2, o⟩ := ih (b + 1) (sI σ 13 (40 * s + b) 0) (by omega) (by omega)
      refine ⟨τ, e, fun k ha hb => ?_, fun k hk => ?_, Off.tr (Off.sI rfl) o⟩
      · by_cases q : k = b
        · subst q
          rw [h2 _ (by omega), sI_at]
        · exact h1 k (by omega) hb
      · rw [h2 k (by omega), sI_k (by omega)]
theorem Op_sheet {pc : Nat} {σ υ : HS} (p1 p2 p3 : Int32) (h : RelE pc σ υ) : ∃ r σ' υ', c_X8_sheet p1 p2 p3 σ = some (r, σ') ∧ c_X9_sheet p1 p2 p3 υ = some (r, υ') ∧ RelE pc σ' υ' := by
  have hh := h
  obtain ⟨n, lks, tc, t, ev, H⟩ := h
  have hS : RSh σ υ := H.2.1.2.2.2.2.2.1
  have bad : ∀ v : Int32, ∃ r σ' υ', some (v, σ) = some (r, σ') ∧ some (v, υ) = some (r, υ') ∧ RelE pc σ' υ' := fun v => ⟨_, σ, υ, rfl, rfl, hh⟩
  have i2 : c_X9_in p2.toInt64 (-1) 2 υ = some (if p2 < -1 then 0 else if 2 < p2 then 0 else 1, υ) := in_is (a := -1) (b := 2)
  rw [c_X8_sheet, c_X9_sheet, m_shAt, bi2_s]
  rcases x_shAt (p := p1) hS with ⟨c, e1⟩ | ⟨s, hs, rfl, e1⟩
  · rw [e1, bi2_s, mo_0, sh_no c, if_pos rfl]; exact bad _
  rw [e1, bi2_s, mo_1, sh_yes hs, if_neg one_ne, i2, bi2_s]
  by_cases c1 : p2 < -1
  · rw [if_pos c1, if_pos c1, if_pos rfl]; exact bad _
  rw [if_neg c1, if_neg c1]
  by_cases c2 : 2 < p2
  · rw [if_neg (fun z => le_iff_nlt.mp z c2), if_pos c2, if_pos rfl]; exact bad _
  rw [if_pos (le_iff_nlt.mpr c2), if_neg c2, if_neg one_ne]
  -- the sheet as it is after
  have fin : ∀ (σ' υ' : HS), Off (fun i _ => i = 44 + 2 * s ∨ i = 44 + 2 * s + 1) σ σ' → Off ZSm υ υ' → (∀ u, u ≠ s → gI υ' 10 u = gI υ 10 u ∧ gI υ' 11 u = gI υ 11 u ∧ gI υ' 12 u = gI υ 12 u) → (∀ k, k < 40 * s ∨ 40 * s + 40 ≤ k → gI υ' 13 k = gI υ 13 k) → ((gI σ' (44 + 2 * s) 1 = -1 ∧ gI υ' 10 s = 0) ∨ (gI υ' 10 s = 1 ∧ ∃ so sz, so ≤ 2 ∧ sz ≤ 40 ∧ gI σ' (44 + 2 * s) 1 = nI so ∧ gI σ' (44 + 2 * s) 2 = nI sz ∧ gI υ' 11 s = nI so ∧ gI υ' 12 s = nI sz ∧ ∀ k, k < sz → gI σ' (44 + 2 * s + 1) k = gI υ' 13 (40 * s + k))) → RelE pc σ' υ' := by
    intro σ' υ' o o2 hu h13 hsh
    refine ⟨n, lks, tc, t, ev, H.sh (o.mono fun i k z => by unfold ZSx; omega) o2 fun u hu4 => ⟨by rw [o.2.2]; exact (hS u hu4).1, ?_⟩⟩
    by_cases q : u = s
    · rw [q]; exact hsh
    · obtain ⟨b1, b2, b3⟩ := hu u q
      rw [b1, b2, b3, o.1 _ _ (by omega), o.1 _ _ (by omega)]
      rcases (hS u hu4).2 with z | ⟨z0, so, sz, z1, z2, z3, z4, z5, z6, z7⟩
      · exact Or.inl z
      · exact Or.inr ⟨z0, so, sz, z1, z2, z3, z4, z5, z6, fun k hk => by rw [o.1 _ _ (by omega), h13 _ (by omega)]; exact z7 k hk⟩
  have is4 := inb_nI hs (show 4 < 2 ^ 31 by omega)
  by_cases c3 : p2 = -1
  · subst c3
    rw [if_pos rfl, if_pos (by decide)]
    obtain ⟨s1, e2, g1, g2, g3, o1⟩ := x_become (j := 44 + 2 * s) (so := -1) (sz := 0) (σ := σ) (by omega)
    obtain ⟨u1, eu1⟩ : ∃ z, z = sI (sI (sI υ 10 s 0) 11 s (-1)) 12 s p3 := ⟨_, rfl⟩
    have d : c_X9_sheet_34 (nI s) (-1) p3 υ = some (1, u1) := by
      rw [c_X9_sheet_34, if_pos (by decide), c_X9_sheet_45, if_pos (by decide), c_X9_sheet_59, if_pos is4, lt_eqq, if_pos is4, lt_eqq, if_pos is4, lt_eqq, ix_nI (by omega), show vp_nar .boolean 0 = 0 by decide, ← eu1]
      show c_X9_sheet_77 (5999 + 1) (nI s) (-1) p3 0 u1 = some (1, u1)
      rw [c_X9_sheet_77]
      by_cases z : p3 ≤ 0
      · rw [if_pos z]
      · rw [if_neg z, if_pos (by decide)]
    rw [show c_X3_become (44 + 2 * s) (-1) 0 σ = some s1 from e2, bi1_s, d]
    refine ⟨_, s1, u1, rfl, rfl, fin s1 u1 o1 ?_ (fun u hu => ?_) (fun k hk => ?_) (Or.inl ⟨g1, ?_⟩)⟩
    · rw [eu1]; exact Off.tr (Off.sI (by unfold ZSm; omega)) (Off.tr (Off.sI (by unfold ZSm; omega)) (Off.sI (by unfold ZSm; omega)))
    · rw [eu1]
      refine ⟨?_, ?_, ?_⟩
      · rw [sI_i (by omega), sI_i (by omega), sI_k hu]
      · rw [sI_i (by omega), sI_k hu, sI_i (by omega)]
      · rw [sI_k hu, sI_i (by omega), sI_i (by omega)]
    · rw [eu1, sI_i (by omega), sI_i (by omega), sI_i (by omega)]
    · rw [eu1, sI_i (by omega), sI_i (by omega), sI_at]
  rw [if_neg c3]
  obtain ⟨so, hso, rfl⟩ : ∃ so, so ≤ 2 ∧ p2 = nI so := by
    rcases rng_cases p2 2 (by omega) with z | ⟨z, z2⟩ | z
    · exfalso
      apply c3
      apply Int32.toInt_inj.mp
      rw [Int32.lt_iff_toInt_lt, show (-1 : Int32).toInt = -1 by decide] at c1
      rw [Int32.lt_iff_toInt_lt, show (0 : Int32).toInt = 0 by decide] at z
      rw [show (-1 : Int32).toInt = -1 by decide]
      omega
    · exact absurd z2 c2
    · exact z
  have np : ¬ nI so < 0 := nI_pos (by omega)
  rw [if_neg np]
  by_cases c4 : p3 ≤ 40
  · rw [if_pos c4, if_pos c4, c_X9_sheet_34, if_neg np]
    by_cases c5 : 0 ≤ p3
    · rw [if_pos c5, if_pos c5]
      obtain ⟨sz, hsz, rfl⟩ : ∃ sz, sz ≤ 40 ∧ p3 = nI sz := by
        rcases rng_cases p3 40 (by omega) with z | ⟨z, z2⟩ | z
        · exact absurd z (le_iff_nlt.mp c5)
        · exact absurd z2 (le_iff_nlt.mp c4)
        · exact z
      obtain ⟨s1, e2, g1, g2, g3, o1⟩ := x_become (j := 44 + 2 * s) (so := nI so) (sz := sz) (σ := σ) hsz
      obtain ⟨u1, eu1⟩ : ∃ z, z = sI (sI (sI υ 10 s 1) 11 s (nI so)) 12 s (nI sz) := ⟨_, rfl⟩
      obtain ⟨u2, e3, k1, k2, o3⟩ := m_zeroL (so := so) hs hso hsz FU 0 u1 (by rw [FU]; omega) (by omega)
      have d : c_X9_sheet_45 (nI s) (nI so) (nI sz) υ = some (1, u2) := by
        rw [c_X9_sheet_45, if_neg np, c_X9_sheet_59, if_pos is4, lt_eqq, if_pos is4, lt_eqq, if_pos is4, lt_eqq, ix_nI (by omega), show vp_nar .boolean 1 = 1 by decide, ← eu1]
        exact e3
      have oU : Off ZSm υ u1 := by rw [eu1]; exact Off.tr (Off.sI (by unfold ZSm; omega)) (Off.tr (Off.sI (by unfold ZSm; omega)) (Off.sI (by unfold ZSm; omega)))
      have v1 : ∀ i k, i ≠ 13 → gI u2 i k = gI u1 i k := fun i k hi => o3.1 i k hi
      have w13 : ∀ k, gI u1 13 k = gI υ 13 k := fun k => by rw [eu1, sI_i (by omega), sI_i (by omega), sI_i (by omega)]
      rw [e2, bi1_s, d]
      refine ⟨_, s1, u2, rfl, rfl, fin s1 u2 o1 (oU.tr (o3.mono fun i k z => by unfold ZSm; omega)) (fun u hu => ?_) (fun k hk => ?_) (Or.inr ⟨?_, so, sz, hso, hsz, g1, g2, ?_, ?_, fun k hk => ?_⟩)⟩
      · rw [v1 10 _ (by omega), v1 11 _ (by omega), v1 12 _ (by omega), eu1]
        refine ⟨?_, ?_, ?_⟩
        · rw [sI_i (by omega), sI_i (by omega), sI_k hu]
        · rw [sI_i (by omega), sI_k hu, sI_i (by omega)]
        · rw [sI_k hu, sI_i (by omega), sI_i (by omega)]
      · rw [k2 k (by omega), w13]
      · rw [v1 10 _ (by omega), eu1, sI_i (by omega), sI_i (by omega), sI_at]
      · rw [v1 11 _ (by omega), eu1, sI_i (by omega), sI_at]
      · rw [v1 12 _ (by omega), eu1, sI_at]
      · rw [g3 k (by omega), k1 k (Nat.zero_le _) hk]
    · rw [if_neg c5, if_neg c5]; exact bad _
  · rw [if_neg c4, if_neg c4]; exact bad _
/-! a sheet that is there -/
theorem miss_x {j : Nat} {σ : HS} : c_X3_isMissing j σ = some (if gI σ j 1 = -1 then 1 else 0, σ) := by
  rw [c_X3_isMissing]
  by_cases c : gI σ j 1 = -1
  · rw [if_pos c, if_pos c]
  · rw [if_neg c, if_neg c]
/-- one item of a sheet changes -/
theorem RSh.item {σ υ : HS} {s i : Nat} {v : Int32} (h : RSh σ υ) (hs : s < 4) (hi : i < 40) : RSh (sI σ (44 + 2 * s + 1) i v) (sI υ 13 (40 * s + i) v) := by
  intro u hu
  rw [sI_i (by omega), sI_i (by omega), sI_i (by omega), sI_i (by omega), sI_i (by omega)]
  refine ⟨(h u hu).1, ?_⟩
  rcases (h u hu).2 with z | ⟨z0, so, sz, z1, z2, z3, z4, z5, z6, z7⟩
  · exact Or.inl z
  · refine Or.inr ⟨z0, so, sz, z1, z2, z3, z4, z5, z6, fun k hk => ?_⟩
    rw [gI_sI, gI_sI]
    by_cases q : u = s ∧ k = i
    · rw [if_pos (by omega), if_pos (by omega)]
    · rw [if_neg (by omega), if_neg (by omega)]; exact z7 k hk
theorem x_hasS {j sz : Nat} {p : Int32} {σ : HS} (h : gI σ j 2 = nI sz) : c_X3_has j p σ = some (if p < 0 then 0 else if nI sz ≤ p then 0 else 1, σ) := by
  rw [c_X3_has, h]
  by_cases c : p < 0
  · rw [if_pos c, if_pos c]
  · rw [if_neg c, if_neg c]
    by_cases c2 : nI sz ≤ p
    · rw [if_pos c2, if_pos c2]
    · rw [if_neg c2, if_neg c2]
theorem Op_cell {pc : Nat} {σ υ : HS} (p1 p2 p3 : Int32) (h : RelE pc σ υ) : ∃ r σ' υ', c_X8_cell p1 p2 p3 σ = some (r, σ') ∧ c_X9_cell p1 p2 p3 υ = some (r, υ') ∧ RelE pc σ' υ' := by
  have hh := h
  obtain ⟨n, lks, tc, t, ev, H⟩ := h
  have hS : RSh σ υ := H.2.1.2.2.2.2.2.1
  have bad : ∀ v : Int32, ∃ r σ' υ', some (v, σ) = some (r, σ') ∧ some (v, υ) = some (r, υ') ∧ RelE pc σ' υ' := fun v => ⟨_, σ, υ, rfl, rfl, hh⟩
  rw [c_X8_cell, c_X9_cell, m_shAt, bi2_s]
  rcases x_shAt (p := p1) hS with ⟨c, e1⟩ | ⟨s, hs, rfl, e1⟩
  · rw [e1, bi2_s, mo_0, sh_no c, if_pos rfl]; exact bad _
  have is4 := inb_nI hs (show 4 < 2 ^ 31 by omega)
  rw [e1, bi2_s, mo_1, sh_yes hs, if_neg one_ne, if_pos is4, ix_nI (by omega), miss_x, bi2_s]
  rcases (hS s hs).2 with ⟨z1, z2⟩ | ⟨z0, so, sz, z1, z2, z3, z4, z5, z6, z7⟩
  · rw [if_pos z1, if_neg one_ne, z2, if_pos rfl]; exact bad _
  have nz : ¬ gI σ (44 + 2 * s) 1 = -1 := by rw [z3]; exact nI_neg (by omega)
  rw [if_neg nz, if_pos rfl, z0, if_neg one_ne, if_pos is4, z6, below_g (by omega), bi2_s, x_hasS z4, bi2_s]
  rcases box_cases p2 sz (by omega) with c | c | ⟨i, hi, rfl⟩
  · rw [has_no (Or.inl c), if_pos rfl, if_pos rfl]; exact bad _
  · rw [has_no (Or.inr c), if_pos rfl, if_pos rfl]; exact bad _
  have i40 := inb_nI (show i < 40 by omega) (show 40 < 2 ^ 31 by omega)
  have iM := inb_nI (show 40 * s + i < 160 by omega) (show 160 < 2 ^ 31 by omega)
  rw [has_yes' hi (by omega), if_neg one_ne, if_neg one_ne, c_X3_put, x_hasS z4, bi2_s, has_yes' hi (by omega), if_neg one_ne, if_pos is4, if_pos is4, z5, z3, if_pos i40, if_pos i40, if_pos i40, ix_nI (by omega), show (40 : Int32) = nI 40 from rfl, nI_mul, nI_add, if_pos iM, if_pos iM, if_pos iM, ix_nI (by omega), lt_eqq, lt_eqq, lt_eqq, lt_eqq, lt_eqq, lt_eqq]
  have fin : ∀ v : Int32, ∃ r σ' υ', some ((1 : Int32), sI σ (44 + 2 * s + 1) i v) = some (r, σ') ∧ some ((1 : Int32), sI υ 13 (40 * s + i) v) = some (r, υ') ∧ RelE pc σ' υ' := fun v => ⟨_, _, _, rfl, rfl, n, lks, tc, t, ev, H.sh (Off.sI (by unfold ZSx; omega)) (Off.sI (by unfold ZSm; omega)) (hS.item hs (by omega))⟩
  by_cases q0 : nI so = 0
  · rw [if_pos q0, if_pos q0, bi1_s]; exact fin _
  rw [if_neg q0, if_neg q0]
  by_cases q1 : nI so = 1
  · rw [if_pos q1, if_pos q1, bi1_s]; exact fin _
  · rw [if_neg q1, if_neg q1, bi1_s]; exact fin _
