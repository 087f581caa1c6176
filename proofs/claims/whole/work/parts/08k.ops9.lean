/-! FORCE, FEED, IMAGE, BACK, TAKEN -/
theorem below_m {p : Int32} {n : Nat} {σ : HS} (hn : n ≤ 12) : c_X9_in p.toInt64 0 (nI n - 1).toInt64 σ = some (if p < 0 then 0 else if nI n ≤ p then 0 else 1, σ) := by
  have e : c_X9_in p.toInt64 0 (nI n - 1).toInt64 σ = some (if p < 0 then 0 else if nI n - 1 < p then 0 else 1, σ) := in_is (a := 0)
  rw [e]
  by_cases c : p < 0
  · rw [if_pos c, if_pos c]
  rw [if_neg c, if_neg c]
  by_cases c2 : nI n ≤ p
  · rw [if_pos c2, if_pos]
    rcases Nat.eq_zero_or_pos n with z | z
    · subst z
      rw [show nI 0 - 1 = (-1 : Int32) by decide, Int32.lt_iff_toInt_lt, show (-1 : Int32).toInt = -1 by decide]
      rw [Int32.lt_iff_toInt_lt, show (0 : Int32).toInt = 0 by decide] at c
      omega
    · rw [pred_nI z, le_pred z (by omega)]; exact c2
  · rw [if_neg c2, if_neg]
    rcases Nat.eq_zero_or_pos n with z | z
    · subst z
      exfalso
      apply c2
      rw [nI_0, le_iff_nlt]
      exact c
    · rw [pred_nI z, le_pred z (by omega)]; exact c2
theorem Op_force {pc : Nat} {σ υ : HS} (p1 : Int32) (h : RelE pc σ υ) : ∃ r σ' υ', c_X8_force p1 σ = some (r, σ') ∧ c_X9_force p1 υ = some (r, υ') ∧ RelE pc σ' υ' := by
  have hh := h
  obtain ⟨n, lks, tc, t, ev, h⟩ := h
  have H := h
  obtain ⟨hL, ⟨hP, hT, ⟨r1, r2, r3⟩, hTp, hIm, hSh, hFx⟩, hTa⟩ := h
  have bad : ∃ r σ' υ', some ((-2 : Int32), σ) = some (r, σ') ∧ some ((-2 : Int32), υ) = some (r, υ') ∧ RelE pc σ' υ' := ⟨_, σ, υ, rfl, rfl, hh⟩
  have htc := hT.1
  rw [c_X8_force, c_X9_force, hT.2.1.2, below_m (by omega), bi2_s, hT.2.1.1]
  rcases box_cases p1 tc (by omega) with c | c | ⟨b, hb, rfl⟩
  · rw [if_pos c, has_no (Or.inl c), if_pos rfl]; exact bad
  · rw [if_neg c.1, if_neg (fun z => i_not_le.mpr z c.2), has_no (Or.inr c), if_pos rfl]; exact bad
  · rw [if_neg (nI_pos (by omega)), if_pos (by rw [nI_ltI (by omega) (by omega)]; exact hb), has_yes hb (by omega), if_neg one_ne, lt_eqq, lt_eqq, r2, r3]
    refine ⟨_, _, _, rfl, rfl, n, lks, tc, b, ev, ?_⟩
    have X : ∀ i k, ¬ (i = 0 ∧ k = 2) → gI (sI σ 0 2 (nI b)) i k = gI σ i k := fun i k hk => by rw [gI_sI, if_neg hk]
    have Y : ∀ i k, ¬ (i = 0 ∧ k = 4) → gI (sI υ 0 4 (nI b)) i k = gI υ i k := fun i k hk => by rw [gI_sI, if_neg hk]
    have Xr : ∀ i, i ≠ 0 → gI (sI σ 0 2 (nI b)) i = gI σ i := fun i hi => funext fun k => X i k (by omega)
    have Yr : ∀ i, i ≠ 0 → gI (sI υ 0 4 (nI b)) i = gI υ i := fun i hi => funext fun k => Y i k (by omega)
    refine ⟨?_, ⟨?_, ?_, ⟨hb, sI_at _ _ _ _, sI_at _ _ _ _⟩, ?_, ?_, ?_, ?_⟩, ?_⟩
    · unfold RLy at hL ⊢
      rw [Xr 2 (by omega), X 1 1 (by omega), X 0 1 (by omega), Y 0 8 (by omega), Y 0 9 (by omega), Yr 4 (by omega)]
      exact hL
    · obtain ⟨a0, a1, a2, a3⟩ := hP
      refine ⟨a0, by rw [X 0 8 (by omega)]; exact a1, by rw [Y 0 26 (by omega)]; exact a2, fun k hk => ?_⟩
      obtain ⟨b0, q, w, b1, b2, b3, b4, b5, b6⟩ := a3 k hk
      exact ⟨b0, q, w, b1, b2, by rw [X _ _ (by omega)]; exact b3, by rw [X _ _ (by omega)]; exact b4, by rw [Y _ _ (by omega)]; exact b5, by rw [Y _ _ (by omega)]; exact b6⟩
    · obtain ⟨a0, ⟨a1, a2⟩, a3, a4⟩ := hT
      refine ⟨a0, ⟨by rw [X 0 12 (by omega)]; exact a1, by rw [Y 0 3 (by omega)]; exact a2⟩, a3, fun u hu => ?_⟩
      rw [Xr _ (by omega), Xr _ (by omega), Yr 1 (by omega), Yr 2 (by omega)]
      exact a4 u hu
    · obtain ⟨sz, a1, a2, a3, a4⟩ := hTp
      exact ⟨sz, a1, by rw [X _ _ (by omega)]; exact a2, by rw [Y 0 6 (by omega)]; exact a3, fun k hk => by rw [X _ _ (by omega), Y _ _ (by omega)]; exact a4 k hk⟩
    · unfold RIm at hIm ⊢
      rw [Xr 4 (by omega), X 0 6 (by omega), X 3 1 (by omega), X 0 4 (by omega), X 0 5 (by omega), Y 0 37 (by omega), Y 0 38 (by omega), Y 0 39 (by omega), Y 0 40 (by omega), Yr 9 (by omega)]
      exact hIm
    · intro s hs
      rw [Xr _ (by omega), Xr (44 + 2 * s + 1) (by omega), Yr 10 (by omega), Yr 11 (by omega), Yr 12 (by omega), Yr 13 (by omega)]
      exact hSh s hs
    · refine ⟨fun k hk => ?_, by rw [Xr 9 (by omega)]; exact hFx.2.1, by rw [Xr 9 (by omega)]; exact hFx.2.2⟩
      rw [Xr _ (by omega)]
      exact hFx.1 k hk
    · refine ⟨hTa.1.same (fun k => by rw [Xr _ (by omega)]) (fun k => rfl), hTa.2.1.same (fun k => by rw [Xr _ (by omega)]) (fun _ _ _ => rfl), fun p hp q w hq hw e1 e2 => ?_⟩
      rw [Xr _ (by omega)] at e1 e2
      exact (hTa.2.2 p hp q w hq hw e1 e2).same (fun k => by rw [Xr _ (by omega)]) (fun k => rfl)
theorem x_kind {q : Int32} {σ : HS} : c_X1_isKind q σ = some (if q < 0 then 0 else if 5 < q then 0 else 1, σ) := by
  rw [c_X1_isKind]
  by_cases c : q < 0
  · rw [if_pos c, if_pos c]
  · rw [if_neg c, if_neg c]
    by_cases c2 : 5 < q
    · rw [if_pos c2, if_pos c2]
    · rw [if_neg c2, if_neg c2]
def ovr (q : Int32) : Int32 := tabF (ix q)
def tkn (k : Int32) : Nat → Int32 → Bool
  | 0, _ => false
  | m + 1, q => if q = -1 then false else if q = k then true else tkn k m (ovr q)
theorem ovr_v : ∀ q, q < 6 → ovr (nI q) = -1 ∨ ∃ v, v < q ∧ ovr (nI q) = nI v := by
  intro q hq
  have : q = 0 ∨ q = 1 ∨ q = 2 ∨ q = 3 ∨ q = 4 ∨ q = 5 := by omega
  rcases this with rfl | rfl | rfl | rfl | rfl | rfl
  · exact Or.inl (by decide)
  · exact Or.inr ⟨0, by omega, by decide⟩
  · exact Or.inr ⟨0, by omega, by decide⟩
  · exact Or.inr ⟨2, by omega, by decide⟩
  · exact Or.inr ⟨2, by omega, by decide⟩
  · exact Or.inr ⟨1, by omega, by decide⟩
theorem has_kind (v : Nat) (hv : v < 6) : (if nI v < 0 then (0 : Int32) else if 5 < nI v then 0 else 1) = 1 := by
  rw [if_neg (nI_pos (by omega)), if_neg (by rw [show (5 : Int32) = nI 5 from rfl, nI_ltI (by omega) (by omega)]; omega)]
theorem x_tknL {k : Nat} {σ : HS} (hk : k ≤ 5) : ∀ (F m i : Nat) (q : Int32), m < F → i + m = 6 → (q = -1 ∨ ∃ v, v < m ∧ v < 6 ∧ q = nI v) → c_X1_isTakenFor_7 F (nI k) q (nI i) σ = some (tf (tkn (nI k) m q), σ) := by
  intro F
  induction F with
  | zero => intro m i q h; omega
  | succ F ih =>
    intro m i q hF hi hq
    rw [c_X1_isTakenFor_7]
    cases m with
    | zero => rw [if_pos (by rw [show (6 : Int32) = nI 6 from rfl, nI_leI (by omega) (by omega)]; omega), tkn]; rfl
    | succ m =>
      rw [if_neg (by rw [show (6 : Int32) = nI 6 from rfl, nI_leI (by omega) (by omega)]; omega), x_kind, bi2_s, tkn]
      rcases hq with rfl | ⟨v, hv, hv6, rfl⟩
      · rw [if_pos (by decide), if_pos rfl]; rfl
      · rw [has_kind v hv6, if_neg one_ne, if_neg (nI_neg (by omega))]
        by_cases c : nI v = nI k
        · rw [if_pos c, if_pos c]; rfl
        · rw [if_neg c, if_neg c, if_pos (inb_nI hv6 (by omega)), nI_1]
          refine ih m (i + 1) _ (by omega) (by omega) ?_
          rcases ovr_v v hv6 with z | ⟨u, hu, z⟩
          · exact Or.inl z
          · exact Or.inr ⟨u, by omega, by omega, z⟩
theorem m_over : ∀ v, v < 6 → ∀ σ : HS, c_X9_over (nI v) σ = some (ovr (nI v), σ) := by
  intro v hv σ
  have : v = 0 ∨ v = 1 ∨ v = 2 ∨ v = 3 ∨ v = 4 ∨ v = 5 := by omega
  rcases this with rfl | rfl | rfl | rfl | rfl | rfl <;> rfl
theorem m_tknL {k p : Nat} {σ : HS} (hk : k ≤ 5) (hp : p < 8) : ∀ (F m : Nat) (q : Int32), m < F → (q = -1 ∨ ∃ v, v < m ∧ v < 6 ∧ q = nI v) → c_X9_taken_33 F (nI p) (nI k) q σ = some (if tkn (nI k) m q = true then gI σ 6 p else -13, σ) := by
  intro F
  induction F with
  | zero => intro m q h; omega
  | succ F ih =>
    intro m q hF hq
    have d51 : ∀ x, c_X9_taken_51 (nI p) (nI k) x σ = some (if x = nI k then gI σ 6 p else -13, σ) := by
      intro x
      rw [c_X9_taken_51, if_pos (inb_nI hp (by omega)), ix_nI (by omega)]
      by_cases c : x = nI k
      · rw [if_pos c, if_pos c]
      · rw [if_neg c, if_neg c]
    rw [c_X9_taken_33]
    rcases hq with rfl | ⟨v, hv, hv6, rfl⟩
    · rw [if_pos rfl, d51, if_neg (fun z => nI_neg (by omega) z.symm)]
      cases m with
      | zero => rw [tkn, if_neg (by decide)]
      | succ m => rw [tkn, if_pos rfl, if_neg (by decide)]
    · obtain ⟨m, rfl⟩ : ∃ m', m = m' + 1 := ⟨m - 1, by omega⟩
      rw [if_neg (nI_neg (by omega)), tkn, if_neg (nI_neg (by omega))]
      by_cases c : nI v = nI k
      · rw [if_pos c, if_pos c, d51, if_pos c, if_pos rfl]
      · rw [if_neg c, if_neg c, m_over v hv6, bi2_s]
        refine ih m _ (by omega) ?_
        rcases ovr_v v hv6 with z | ⟨u, hu, z⟩
        · exact Or.inl z
        · exact Or.inr ⟨u, by omega, by omega, z⟩
theorem Op_taken {pc : Nat} {σ υ : HS} (p1 p2 : Int32) (h : RelE pc σ υ) : ∃ r σ' υ', c_X8_taken p1 p2 σ = some (r, σ') ∧ c_X9_taken p1 p2 υ = some (r, υ') ∧ RelE pc σ' υ' := by
  have hh := h
  obtain ⟨n, lks, tc, t, ev, h⟩ := h
  obtain ⟨_, ⟨⟨hc, hp, hp2, hpl⟩, _⟩, _⟩ := h
  have bad : ∀ v : Int32, ∃ r σ' υ', some (v, σ) = some (r, σ') ∧ some (v, υ) = some (r, υ') ∧ RelE pc σ' υ' := fun v => ⟨_, σ, υ, rfl, rfl, hh⟩
  have i5 : c_X9_in p2.toInt64 0 5 υ = some (if p2 < 0 then 0 else if 5 < p2 then 0 else 1, υ) := in_is (a := 0) (b := 5)
  rw [c_X8_taken, c_X9_taken, x_kind, i5, bi2_s, bi2_s]
  rcases rng_cases p2 5 (by omega) with z | ⟨z, z2⟩ | ⟨k, hk, rfl⟩
  · rw [if_pos z, if_pos rfl, if_pos rfl]; exact bad _
  · rw [if_neg z, if_pos (show (5 : Int32) < p2 from z2), if_pos rfl, if_pos rfl]; exact bad _
  rw [has_kind k (by omega), if_neg one_ne, if_neg one_ne, m_isPlan hp2 hc, bi2_s]
  rcases x_planAt (p := p1) hp hc (fun k hk3 => (hpl k hk3).1) with ⟨c, e1⟩ | ⟨j, hj, rfl, e1⟩
  · rw [e1, bi2_s, mo_0, has_no c, if_pos rfl]; exact bad _
  obtain ⟨-, q, w, hq, hw, a1, a2, a3, a4⟩ := hpl j hj
  have ex : c_X1_isTakenFor (76 + 2 * j) (nI k) σ = some (tf (tkn (nI k) 6 (nI q)), σ) := by
    rw [c_X1_isTakenFor, a1]
    exact x_tknL hk FU 6 0 (nI q) (by rw [FU]; omega) (by omega) (Or.inr ⟨q, by omega, by omega, rfl⟩)
  rw [e1, bi2_s, mo_1, ex, bi2_s, if10, has_yes hj (by omega), if_neg one_ne, if_pos (inb_nI (by omega) (by omega)), ix_nI (by omega), a3, m_tknL hk (by omega) FU 6 (nI q) (by rw [FU]; omega) (Or.inr ⟨q, by omega, by omega, rfl⟩), a2, a4]
  by_cases c : tkn (nI k) 6 (nI q) = true
  · rw [if_pos c, if_pos c]; exact bad _
  · rw [if_neg c, if_neg c]; exact bad _
