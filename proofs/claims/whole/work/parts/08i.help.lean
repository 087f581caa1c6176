/-! HELP -/
theorem swf_swf (f : Nat → Int32) (a b : Nat) : swf (swf f a b) a b = f := by
  funext k
  rw [swf, swf, swf, swf]
  by_cases c1 : k = b
  · subst c1
    rw [if_pos rfl]
    by_cases c2 : a = k
    · subst c2; rw [if_pos rfl]
    · rw [if_neg c2, if_pos rfl]
  · rw [if_neg c1]
    by_cases c2 : k = a
    · rw [if_pos c2, if_pos rfl, c2]
    · rw [if_neg c2, if_neg c1, if_neg c2]
noncomputable def hin (n : Nat) (f : Nat → Int32) (a : Nat) : Nat → Nat → (Nat × Int32) → (Nat × Int32)
  | 0, _, x => x
  | m + 1, b, x => hin n f a m (b + 1) (if svL n (swf f a b) n < x.1 then (svL n (swf f a b) n, 12 * nI a + nI b) else x)
noncomputable def hou (n : Nat) (f : Nat → Int32) : Nat → Nat → (Nat × Int32) → (Nat × Int32)
  | 0, _, x => x
  | m + 1, a, x => hou n f m (a + 1) (hin n f a (n - (a + 1)) (a + 1) x)
theorem hin_alk {n a : Nat} {f g : Nat → Int32} (hn : n ≤ 12) (ha : a < n) (hf : VL n f) (e : alk n f g) : ∀ m b x, b + m ≤ n → hin n f a m b x = hin n g a m b x := by
  intro m
  induction m with
  | zero => intro b x _; rfl
  | succ m ih =>
    intro b x hb
    rw [hin, hin, svL_alk hn (hf.sw ha (show b < n by omega)) (sw_alk e ha (by omega)) n (Nat.le_refl _)]
    exact ih _ _ (by omega)
theorem hou_alk {n : Nat} {f g : Nat → Int32} (hn : n ≤ 12) (hf : VL n f) (e : alk n f g) : ∀ m a x, a + m ≤ n → hou n f m a x = hou n g m a x := by
  intro m
  induction m with
  | zero => intro b x _; rfl
  | succ m ih =>
    intro a x ha
    rw [hou, hou, hin_alk hn (show a < n by omega) hf e (n - (a + 1)) (a + 1) x (by omega)]
    exact ih _ _ (by omega)
theorem hin_le {n a : Nat} {f : Nat → Int32} : ∀ m b x, (hin n f a m b x).1 ≤ x.1 := by
  intro m
  induction m with
  | zero => intro b x; exact Nat.le_refl _
  | succ m ih =>
    intro b x
    rw [hin]
    refine Nat.le_trans (ih _ _) ?_
    split
    · rename_i h; exact Nat.le_of_lt h
    · exact Nat.le_refl _
def Zhx (i k : Nat) : Prop := (i = 5 ∧ 2 ≤ k ∧ k ≤ 4) ∨ i = 6
theorem x_hin {n a : Nat} {p1 : Int32} (hn : n ≤ 12) (ha : a < n) {k43 : Int32 → Int32 → Int32 → Int32 → HS → Option (Int32 × HS)} : ∀ (F m b : Nat) (x : Nat × Int32) (σ : HS), m < F → b + m = n → x.1 ≤ 12 → gI σ 1 1 = nI n → gI σ 5 1 = nI n → VL n (gI σ 6) → VJ n (gI σ 6) → ∃ τ, c_X8_help_61 k43 F p1 (nI x.1) x.2 (nI a) (nI b) σ = k43 p1 (nI (hin n (gI σ 6) a m b x).1) (hin n (gI σ 6) a m b x).2 (nI (a + 1)) τ ∧ Off Zhx σ τ ∧ gI τ 6 = gI σ 6 := by
  intro F
  induction F with
  | zero => intro m b x σ h; omega
  | succ F ih =>
    intro m b x σ hF hb hx h1 h5 hf hj
    rw [c_X8_help_61, h1]
    cases m with
    | zero =>
      rw [if_pos (by rw [nI_leI (by omega) (by omega)]; omega), c_X8_help_136, nI_1]
      exact ⟨σ, rfl, Off.rf, rfl⟩
    | succ m =>
      obtain ⟨s1, es1⟩ : ∃ z, z = sA σ 6 (swf (gI σ 6) a b) := ⟨_, rfl⟩
      have e1 : c_X0_change 5 (nI a) (nI b) σ = some s1 := by rw [es1]; exact x_change h5 hn ha (by omega)
      have r1 : gI s1 6 = swf (gI σ 6) a b := by rw [es1]; exact gI_row _ _ _
      have n1 : ∀ i, i ≠ 6 → gI s1 i = gI σ i := fun i hi => by rw [es1]; exact gI_rowne hi
      have hf1 : VL n (gI s1 6) := by rw [r1]; exact hf.sw ha (by omega)
      have hj1 : VJ n (gI s1 6) := by rw [r1]; exact hj.sw ha (by omega)
      obtain ⟨s2, es2⟩ : ∃ z, z = svX 5 n s1 n := ⟨_, rfl⟩
      have e2 : c_X0_survey 5 s1 = some s2 := by rw [es2]; exact x_survey (by rw [n1 5 (by omega)]; exact h5) hn hf1 hj1
      have o2 : Off Zhx s1 s2 := by rw [es2]; exact Off.t3 (Or.inl ⟨rfl, by omega, by omega⟩) (Or.inl ⟨rfl, by omega, by omega⟩) (Or.inl ⟨rfl, by omega, by omega⟩)
      have r2 : gI s2 6 = gI s1 6 := by rw [es2, svX, t3_row (by omega)]
      have g3 : gI s2 5 3 = nI (svL n (swf (gI σ 6) a b) n) := by
        rw [es2, svX, gI_t3, if_neg (by omega), if_pos ⟨rfl, rfl⟩, show (5 + 1 : Nat) = 6 from rfl, r1]
      have s51 : gI s2 5 1 = nI n := by rw [es2, svX, t3_ne (by omega), n1 5 (by omega)]; exact h5
      have s11 : gI s2 1 1 = nI n := by rw [es2, svX, t3_ne (by omega), n1 1 (by omega)]; exact h1
      obtain ⟨s3, es3⟩ : ∃ z, z = sA s2 6 (swf (gI s2 6) a b) := ⟨_, rfl⟩
      have e3 : c_X0_change 5 (nI a) (nI b) s2 = some s3 := by rw [es3]; exact x_change s51 hn ha (by omega)
      have r3 : gI s3 6 = gI σ 6 := by rw [es3, gI_row, r2, r1, swf_swf]
      have n3 : ∀ i, i ≠ 6 → gI s3 i = gI s2 i := fun i hi => by rw [es3]; exact gI_rowne hi
      have o3 : Off Zhx σ s3 := by
        rw [es3, es1] at *
        exact Off.tr (Off.sA fun k => Or.inr rfl) (o2.tr (Off.sA fun k => Or.inr rfl))
      have lL := svL_le (n := n) (f := swf (gI σ 6) a b) hn n (Nat.le_refl _)
      have d119 : ∀ (x2 : Nat) (x3 : Int32), c_X8_help_119 k43 (fun z0 z1 z2 z3 z4 z5 => c_X8_help_61 k43 F z0 z1 z2 z3 z4 z5) p1 (nI x2) x3 (nI a) (nI b) s2 = c_X8_help_61 k43 F p1 (nI x2) x3 (nI a) (nI (b + 1)) s3 := by
        intro x2 x3
        rw [c_X8_help_119, e3, bi1_s, nI_1]
      rw [if_neg (by rw [nI_leI (by omega) (by omega)]; omega), e1, bi1_s, e2, bi1_s, g3, hin]
      by_cases c : svL n (swf (gI σ 6) a b) n < x.1
      · rw [if_neg (by rw [nI_leI (by omega) (by omega)]; omega), if_pos c, d119]
        obtain ⟨τ, e4, o4, r4⟩ := ih m (b + 1) (svL n (swf (gI σ 6) a b) n, 12 * nI a + nI b) s3 (by omega) (by omega) (by show svL n _ n ≤ 12; omega) (by rw [n3 1 (by omega)]; exact s11) (by rw [n3 5 (by omega)]; exact s51) (by rw [r3]; exact hf) (by rw [r3]; exact hj)
        rw [r3] at e4 r4
        exact ⟨τ, e4, o3.tr o4, r4⟩
      · rw [if_pos (by rw [nI_leI (by omega) (by omega)]; omega), if_neg c, d119]
        obtain ⟨τ, e4, o4, r4⟩ := ih m (b + 1) x s3 (by omega) (by omega) hx (by rw [n3 1 (by omega)]; exact s11) (by rw [n3 5 (by omega)]; exact s51) (by rw [r3]; exact hf) (by rw [r3]; exact hj)
        rw [r3] at e4 r4
        exact ⟨τ, e4, o3.tr o4, r4⟩
theorem x_hou {n : Nat} {p1 : Int32} (hn : n ≤ 12) : ∀ (F m a : Nat) (x : Nat × Int32) (σ : HS), m < F → a + m = n → x.1 ≤ 12 → gI σ 1 1 = nI n → gI σ 5 1 = nI n → VL n (gI σ 6) → VJ n (gI σ 6) → ∃ τ, c_X8_help_43 F p1 (nI x.1) x.2 (nI a) σ = c_X8_help_142 p1 (nI (hou n (gI σ 6) m a x).1) (hou n (gI σ 6) m a x).2 τ ∧ Off Zhx σ τ := by
  intro F
  induction F with
  | zero => intro m b x σ h; omega
  | succ F ih =>
    intro m a x σ hF ha hx h1 h5 hf hj
    rw [c_X8_help_43, h1]
    cases m with
    | zero =>
      rw [if_pos (by rw [nI_leI (by omega) (by omega)]; omega)]
      exact ⟨σ, rfl, Off.rf⟩
    | succ m =>
      rw [if_neg (by rw [nI_leI (by omega) (by omega)]; omega), nI_1]
      obtain ⟨s1, e1, o1, r1⟩ := x_hin (p1 := p1) hn (show a < n by omega) (k43 := fun z0 z1 z2 z3 z4 => c_X8_help_43 F z0 z1 z2 z3 z4) FU (n - (a + 1)) (a + 1) x σ (by rw [FU]; omega) (by omega) hx h1 h5 hf hj
      have hle := hin_le (n := n) (a := a) (f := gI σ 6) (n - (a + 1)) (a + 1) x
      obtain ⟨τ, e2, o2⟩ := ih m (a + 1) (hin n (gI σ 6) a (n - (a + 1)) (a + 1) x) s1 (by omega) (by omega) (by omega) (by rw [o1.1 1 1 (by unfold Zhx; omega)]; exact h1) (by rw [o1.1 5 1 (by unfold Zhx; omega)]; exact h5) (by rw [r1]; exact hf) (by rw [r1]; exact hj)
      rw [r1] at e2
      rw [e1, hou]
      exact ⟨τ, e2, o1.tr o2⟩
def Zhm (i k : Nat) : Prop := (i = 0 ∧ 10 ≤ k ∧ k ≤ 12) ∨ i = 4
theorem m_hin {n a : Nat} {p1 : Int32} (hn : n ≤ 12) (ha : a < n) {k29 : Int32 → Int32 → Int32 → Int32 → HS → Option (Int32 × HS)} : ∀ (F m b : Nat) (x : Nat × Int32) (σ : HS), m < F → b + m = n → x.1 ≤ 12 → gI σ 0 8 = nI n → VL n (gI σ 4) → VJ n (gI σ 4) → ∃ τ, c_X9_help_44 k29 F p1 (nI x.1) x.2 (nI a) (nI b) σ = k29 p1 (nI (hin n (gI σ 4) a m b x).1) (hin n (gI σ 4) a m b x).2 (nI (a + 1)) τ ∧ Off Zhm σ τ ∧ gI τ 4 = gI σ 4 := by
  intro F
  induction F with
  | zero => intro m b x σ h; omega
  | succ F ih =>
    intro m b x σ hF hb hx h1 hf hj
    rw [c_X9_help_44, h1]
    cases m with
    | zero =>
      rw [if_pos (by rw [nI_leI (by omega) (by omega)]; omega), c_X9_help_104, nI_1]
      exact ⟨σ, rfl, Off.rf, rfl⟩
    | succ m =>
      obtain ⟨s1, es1⟩ : ∃ z, z = sA σ 4 (swf (gI σ 4) a b) := ⟨_, rfl⟩
      have e1 : c_X9_changes (nI a) (nI b) σ = some s1 := by rw [es1]; exact m_changes (by omega) (by omega)
      have r1 : gI s1 4 = swf (gI σ 4) a b := by rw [es1]; exact gI_row _ _ _
      have n1 : ∀ i, i ≠ 4 → gI s1 i = gI σ i := fun i hi => by rw [es1]; exact gI_rowne hi
      have hf1 : VL n (gI s1 4) := by rw [r1]; exact hf.sw ha (by omega)
      have hj1 : VJ n (gI s1 4) := by rw [r1]; exact hj.sw ha (by omega)
      obtain ⟨s2, es2⟩ : ∃ z, z = svY n s1 n (svR n (gI s1 4) n) := ⟨_, rfl⟩
      have e2 : c_X9_lays s1 = some s2 := by rw [es2]; exact m_lays (by rw [n1 0 (by omega)]; exact h1) hn hf1 hj1
      have o2 : Off Zhm s1 s2 := by rw [es2]; exact Off.t3 (Or.inl ⟨rfl, by omega, by omega⟩) (Or.inl ⟨rfl, by omega, by omega⟩) (Or.inl ⟨rfl, by omega, by omega⟩)
      have r2 : gI s2 4 = gI s1 4 := by rw [es2, svY, t3_row (by omega)]
      have g3 : gI s2 0 11 = nI (svL n (swf (gI σ 4) a b) n) := by
        rw [es2, svY, gI_t3, if_neg (by omega), if_pos ⟨rfl, rfl⟩, r1]
      have s11 : gI s2 0 8 = nI n := by rw [es2, svY, t3_ne (by omega), n1 0 (by omega)]; exact h1
      obtain ⟨s3, es3⟩ : ∃ z, z = sA s2 4 (swf (gI s2 4) a b) := ⟨_, rfl⟩
      have e3 : c_X9_changes (nI a) (nI b) s2 = some s3 := by rw [es3]; exact m_changes (by omega) (by omega)
      have r3 : gI s3 4 = gI σ 4 := by rw [es3, gI_row, r2, r1, swf_swf]
      have n3 : ∀ i, i ≠ 4 → gI s3 i = gI s2 i := fun i hi => by rw [es3]; exact gI_rowne hi
      have o3 : Off Zhm σ s3 := by
        rw [es3, es1] at *
        exact Off.tr (Off.sA fun k => Or.inr rfl) (o2.tr (Off.sA fun k => Or.inr rfl))
      have lL := svL_le (n := n) (f := swf (gI σ 4) a b) hn n (Nat.le_refl _)
      rw [if_neg (by rw [nI_leI (by omega) (by omega)]; omega), e1, bi1_s, e2, bi1_s, e3, bi1_s, n3 0 (by omega), g3, hin, c_X9_help_98, c_X9_help_98, nI_1]
      by_cases c : svL n (swf (gI σ 4) a b) n < x.1
      · rw [if_pos (by rw [nI_ltI (by omega) (by omega)]; omega), if_pos c]
        obtain ⟨τ, e4, o4, r4⟩ := ih m (b + 1) (svL n (swf (gI σ 4) a b) n, 12 * nI a + nI b) s3 (by omega) (by omega) (by show svL n _ n ≤ 12; omega) (by rw [n3 0 (by omega)]; exact s11) (by rw [r3]; exact hf) (by rw [r3]; exact hj)
        rw [r3] at e4 r4
        exact ⟨τ, e4, o3.tr o4, r4⟩
      · rw [if_neg (by rw [nI_ltI (by omega) (by omega)]; omega), if_neg c]
        obtain ⟨τ, e4, o4, r4⟩ := ih m (b + 1) x s3 (by omega) (by omega) hx (by rw [n3 0 (by omega)]; exact s11) (by rw [r3]; exact hf) (by rw [r3]; exact hj)
        rw [r3] at e4 r4
        exact ⟨τ, e4, o3.tr o4, r4⟩
theorem m_hou {n : Nat} {p1 : Int32} (hn : n ≤ 12) : ∀ (F m a : Nat) (x : Nat × Int32) (σ : HS), m < F → a + m = n → x.1 ≤ 12 → gI σ 0 8 = nI n → VL n (gI σ 4) → VJ n (gI σ 4) → ∃ τ, c_X9_help_29 F p1 (nI x.1) x.2 (nI a) σ = c_X9_help_110 p1 (nI (hou n (gI σ 4) m a x).1) (hou n (gI σ 4) m a x).2 τ ∧ Off Zhm σ τ ∧ gI τ 4 = gI σ 4 := by
  intro F
  induction F with
  | zero => intro m b x σ h; omega
  | succ F ih =>
    intro m a x σ hF ha hx h1 hf hj
    rw [c_X9_help_29, h1]
    cases m with
    | zero =>
      rw [if_pos (by rw [nI_leI (by omega) (by omega)]; omega)]
      exact ⟨σ, rfl, Off.rf, rfl⟩
    | succ m =>
      rw [if_neg (by rw [nI_leI (by omega) (by omega)]; omega), nI_1]
      obtain ⟨s1, e1, o1, r1⟩ := m_hin (p1 := p1) hn (show a < n by omega) (k29 := fun z0 z1 z2 z3 z4 => c_X9_help_29 F z0 z1 z2 z3 z4) FU (n - (a + 1)) (a + 1) x σ (by rw [FU]; omega) (by omega) hx h1 hf hj
      have hle := hin_le (n := n) (a := a) (f := gI σ 4) (n - (a + 1)) (a + 1) x
      obtain ⟨τ, e2, o2, r2⟩ := ih m (a + 1) (hin n (gI σ 4) a (n - (a + 1)) (a + 1) x) s1 (by omega) (by omega) (by omega) (by rw [o1.1 0 8 (by unfold Zhm; omega)]; exact h1) (by rw [r1]; exact hf) (by rw [r1]; exact hj)
      rw [r1] at e2 r2
      rw [e1, hou]
      exact ⟨τ, e2, o1.tr o2, r2⟩
theorem x_layAs {i0 i1 : Nat} {σ : HS} (h : i0 ≠ i1 + 1 ∧ i1 + 1 ≠ i0 + 1) : ∃ τ, c_X0_layAs i0 i1 σ = some τ ∧ gI τ i0 1 = gI σ i1 1 ∧ (∀ k, k < 12 → gI τ (i0 + 1) k = gI σ (i1 + 1) k) ∧ Off (fun i k => (i = i0 ∧ k = 1) ∨ i = i0 + 1) σ τ := by
  obtain ⟨s1, es1⟩ : ∃ z, z = sI σ i0 1 (gI σ i1 1) := ⟨_, rfl⟩
  refine ⟨sA s1 (i0 + 1) (va_cpy (gI s1 (i1 + 1)) (gI s1 (i0 + 1)) (ix 0) (ix 0) (ix 12)), ?_, ?_, fun k hk => ?_, ?_⟩
  · rw [c_X0_layAs, lt_eqq, if_pos (by decide), lt_eqq, es1]
  · rw [gI_rowne (by omega), es1, sI_at]
  · rw [gI_row, show ix 0 = 0 by decide, show ix 12 = 12 by decide, va_cpy, if_pos ⟨by omega, by omega⟩, Nat.zero_add, Nat.sub_zero, es1, sI_i (by omega)]
  · rw [es1]
    exact Off.tr (Off.sI (Or.inl ⟨rfl, rfl⟩)) (Off.sA fun k => Or.inr rfl)
theorem Op_help {pc : Nat} {σ υ : HS} (p1 : Int32) (h : RelE pc σ υ) : ∃ r σ' υ', c_X8_help p1 σ = some (r, σ') ∧ c_X9_help p1 υ = some (r, υ') ∧ RelE pc σ' υ' := by
  have hh := h
  obtain ⟨n, lks, tc, t, ev, h⟩ := h
  have H := h
  obtain ⟨⟨⟨h0, hn⟩, hl, hf, hj, ⟨hs, hk⟩, hs2, hk2, e⟩, _, _⟩ := h
  have bad : ∀ v : Int32, ∃ r σ' υ', some (v, σ) = some (r, σ') ∧ some (v, υ) = some (r, υ') ∧ RelE pc σ' υ' := fun v => ⟨_, σ, υ, rfl, rfl, hh⟩
  rw [c_X8_help, c_X9_help, in_02, bi2_s]
  rcases three_cases p1 with c | ⟨c, c2⟩ | ⟨c, c2, c3⟩
  · rw [if_pos c, if_pos c, if_pos rfl]; exact bad _
  · rw [if_neg c, if_neg (fun z => le_iff_nlt.mp z c2), if_neg c, if_pos c2, if_pos rfl]; exact bad _
  obtain ⟨s1, es1⟩ : ∃ z, z = svX 1 n σ n := ⟨_, rfl⟩
  have e1 : c_X0_survey 1 σ = some s1 := by rw [es1]; exact x_survey hs hn hf hj
  have o1 : Off SLx σ s1 := by rw [es1]; exact Off.t3 (Or.inl ⟨rfl, by omega, by omega⟩) (Or.inl ⟨rfl, by omega, by omega⟩) (Or.inl ⟨rfl, by omega, by omega⟩)
  have r1 : gI s1 2 = gI σ 2 := by rw [es1, svX, t3_row (by omega)]
  have s11 : gI s1 1 1 = nI n := by rw [es1, svX, t3_ne (by omega)]; exact hs
  have s13 : gI s1 1 3 = nI (svL n (gI σ 2) n) := by rw [es1, svX, gI_t3, if_neg (by omega), if_pos ⟨rfl, rfl⟩]
  have s14 : gI s1 1 4 = nI (svM (gI σ 2) n) := by rw [es1, svX, gI_t3, if_pos ⟨rfl, rfl⟩]
  obtain ⟨s2, e2, s51, r6, o2⟩ := x_layAs (i0 := 5) (i1 := 1) (σ := s1) (by omega)
  have a6 : alk n (gI σ 2) (gI s2 6) := fun k hk => by rw [r6 k (by omega), show (1 + 1 : Nat) = 2 from rfl, r1]
  have lL := svL_le (n := n) (f := gI σ 2) hn n (Nat.le_refl _)
  have t11 : gI s2 1 1 = nI n := by rw [o2.1 1 1 (by omega)]; exact s11
  obtain ⟨s3, e3, o3⟩ := x_hou (p1 := p1) hn FU n 0 (svL n (gI σ 2) n, -1) s2 (by rw [FU]; omega) (by omega) (by show svL n _ n ≤ 12; omega) t11 (by rw [s51]; exact s11) (hf.alk a6) (hj.alk a6)
  obtain ⟨u1, eu1⟩ : ∃ z, z = svY n υ n (svR n (gI υ 4) n) := ⟨_, rfl⟩
  have l1 : c_X9_lays υ = some u1 := by rw [eu1]; exact m_lays hs2 hn (hf.alk e) (hj.alk e)
  have q1 : Off Zhm υ u1 := by rw [eu1]; exact Off.t3 (Or.inl ⟨rfl, by omega, by omega⟩) (Or.inl ⟨rfl, by omega, by omega⟩) (Or.inl ⟨rfl, by omega, by omega⟩)
  have v4 : gI u1 4 = gI υ 4 := by rw [eu1, svY, t3_row (by omega)]
  have v8 : gI u1 0 8 = nI n := by rw [eu1, svY, t3_ne (by omega)]; exact hs2
  have v11 : gI u1 0 11 = nI (svL n (gI υ 4) n) := by rw [eu1, svY, gI_t3, if_neg (by omega), if_pos ⟨rfl, rfl⟩]
  have eL : svL n (gI υ 4) n = svL n (gI σ 2) n := (svL_alk hn hf e n (Nat.le_refl _)).symm
  obtain ⟨u2, f3, q3, w4⟩ := m_hou (p1 := p1) hn FU n 0 (svL n (gI σ 2) n, -1) u1 (by rw [FU]; omega) (by omega) (by show svL n _ n ≤ 12; omega) v8 (by rw [v4]; exact hf.alk e) (by rw [v4]; exact hj.alk e)
  have u4 : gI u2 4 = gI υ 4 := w4.trans v4
  have u8 : gI u2 0 8 = nI n := by rw [q3.1 0 8 (by unfold Zhm; omega)]; exact v8
  obtain ⟨u3, eu3⟩ : ∃ z, z = svY n u2 n (svR n (gI u2 4) n) := ⟨_, rfl⟩
  have l3 : c_X9_lays u2 = some u3 := by rw [eu3]; exact m_lays u8 hn (by rw [u4]; exact hf.alk e) (by rw [u4]; exact hj.alk e)
  have q5 : Off Zhm u2 u3 := by rw [eu3]; exact Off.t3 (Or.inl ⟨rfl, by omega, by omega⟩) (Or.inl ⟨rfl, by omega, by omega⟩) (Or.inl ⟨rfl, by omega, by omega⟩)
  have x4 : gI u3 4 = gI υ 4 := by rw [eu3, svY, t3_row (by omega)]; exact u4
  have x9 : gI u3 0 9 = nI lks := by rw [q5.1 0 9 (by unfold Zhm; omega), q3.1 0 9 (by unfold Zhm; omega), q1.1 0 9 (by unfold Zhm; omega)]; exact hk2
  have x12 : gI u3 0 12 = nI (svM (gI σ 2) n) := by rw [eu3, svY, gI_t3, if_pos ⟨rfl, rfl⟩, u4, svM_alk e n (Nat.le_refl _)]
  have eh : hou n (gI u1 4) n 0 (svL n (gI σ 2) n, -1) = hou n (gI s2 6) n 0 (svL n (gI σ 2) n, -1) := by
    rw [v4, ← hou_alk hn hf e n 0 _ (by omega), hou_alk hn hf a6 n 0 _ (by omega)]
  rw [eh] at f3
  have y1 : gI s3 0 1 = nI lks := by rw [o3.1 0 1 (by unfold Zhx; omega), o2.1 0 1 (by omega), o1.1 0 1 (by unfold SLx; omega)]; exact hk
  have y4 : gI s3 1 4 = nI (svM (gI σ 2) n) := by rw [o3.1 1 4 (by unfold Zhx; omega), o2.1 1 4 (by omega)]; exact s14
  have oX : Off (fun i k => (i = 1 ∧ 2 ≤ k ∧ k ≤ 4) ∨ i = 5 ∨ i = 6) σ s3 := by
    have o1' : Off (fun i k => (i = 1 ∧ 2 ≤ k ∧ k ≤ 4) ∨ i = 5 ∨ i = 6) σ s1 := by rw [es1]; exact Off.t3 (Or.inl ⟨rfl, by omega, by omega⟩) (Or.inl ⟨rfl, by omega, by omega⟩) (Or.inl ⟨rfl, by omega, by omega⟩)
    exact o1'.tr ((o2.mono fun i k z => by omega).tr (o3.mono fun i k z => by unfold Zhx at z; omega))
  have oM : Off Zhm υ u3 := q1.tr (q3.tr q5)
  have R : Rel n lks pc tc t ev s3 u3 := H.scr oX oM (fun i k z => by unfold Wa; omega) (fun i k z => by unfold Zhm at z; unfold Wm; omega) (by rw [x4]; exact alk_rf)
  rw [if_neg c, if_pos (le_iff_nlt.mpr c2), if_neg c, if_neg c2, if_neg one_ne, e1, bi1_s, e2, bi1_s, s13, l1, bi1_s, v11, eL]
  rw [show c_X8_help_43 FU p1 (nI (svL n (gI σ 2) n)) (-1) 0 s2 = _ from e3, show c_X9_help_29 FU p1 (nI (svL n (gI σ 2) n)) (-1) 0 u1 = _ from f3, c_X8_help_142, c_X9_help_110, l3, bi1_s, y1, y4, x9, x12]
  have fin : ∀ v : Int32, ∃ r σ' υ', some (v, s3) = some (r, σ') ∧ some (v, u3) = some (r, υ') ∧ RelE pc σ' υ' := fun v => ⟨_, s3, u3, rfl, rfl, n, lks, tc, t, ev, R⟩
  by_cases z1 : (hou n (gI s2 6) n 0 (svL n (gI σ 2) n, -1)).2 = -1
  · rw [if_pos z1, if_pos z1]; exact fin _
  rw [if_neg z1, if_neg z1]
  by_cases z2 : p1 = 0
  · rw [if_pos z2, if_pos z2]; exact fin _
  rw [if_neg z2, if_neg z2]
  by_cases z3 : p1 = 1
  · rw [if_pos z3, if_pos z3]; exact fin _
  rw [if_neg z3, if_neg z3]
  by_cases z4 : nI lks < nI (hou n (gI s2 6) n 0 (svL n (gI σ 2) n, -1)).1
  · rw [if_pos z4, if_pos z4]; exact fin _
  rw [if_neg z4, if_neg z4]
  by_cases z5 : nI (svM (gI σ 2) n) = 0
  · rw [if_pos z5, if_pos z5]; exact fin _
  · rw [if_neg z5, if_neg z5]; exact fin _
