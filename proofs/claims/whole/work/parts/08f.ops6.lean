theorem NOx : (-4611686018427387904 : Int64) = -4611686018427387904 := rfl
theorem few_x {n : Nat} {σ : HS} (hs : gI σ 1 1 = nI n) (hn : n ≤ 12) : c_X8_hasTooManyLayings σ = some (if n ≤ 7 then 0 else 1, σ) := by
  rw [c_X8_hasTooManyLayings, hs, show (7 : Int32) = nI 7 from rfl]
  by_cases c : n ≤ 7
  · rw [if_pos ((nI_leI (by omega) (by omega)).mpr c), if_pos c]
  · rw [if_neg (fun z => c ((nI_leI (by omega) (by omega)).mp z)), if_neg c]
theorem few_m {n : Nat} {σ : HS} (hs : gI σ 0 8 = nI n) (hn : n ≤ 12) : c_X9_isFew σ = some (if n ≤ 7 then 1 else 0, σ) := by
  rw [c_X9_isFew, hs, show (7 : Int32) = nI 7 from rfl]
  by_cases c : n ≤ 7
  · rw [if_neg (by rw [nI_ltI (by omega) (by omega)]; omega), if_pos c]
  · rw [if_pos (by rw [nI_ltI (by omega) (by omega)]; omega), if_neg c]
theorem in_01 {p : Int32} {σ : HS} : c_X9_in p.toInt64 0 1 σ = some (if p < 0 then 0 else if 1 < p then 0 else 1, σ) := in_is (a := 0) (b := 1)
theorem in_02 {p : Int32} {σ : HS} : c_X9_in p.toInt64 0 2 σ = some (if p < 0 then 0 else if 2 < p then 0 else 1, σ) := in_is (a := 0) (b := 2)
theorem le_iff_nlt {p q : Int32} : p ≤ q ↔ ¬ q < p := by
  rw [Int32.le_iff_toInt_le, Int32.lt_iff_toInt_lt]
  omega
/-- an int from 0 to 1 -/
theorem two_cases (p : Int32) : p < 0 ∨ (¬ p < 0 ∧ 1 < p) ∨ (¬ p < 0 ∧ ¬ 1 < p ∧ (p = 0 ∨ p = 1)) := by
  by_cases c : p < 0
  · exact Or.inl c
  by_cases c2 : 1 < p
  · exact Or.inr (Or.inl ⟨c, c2⟩)
  refine Or.inr (Or.inr ⟨c, c2, ?_⟩)
  obtain ⟨j, hj, rfl⟩ := nI_of c
  rw [show (1 : Int32) = nI 1 from rfl, nI_ltI (by omega) hj] at c2
  have : j = 0 ∨ j = 1 := by omega
  rcases this with rfl | rfl
  · exact Or.inl nI_0
  · exact Or.inr rfl
theorem Op_wins {pc : Nat} {σ υ : HS} (p1 p2 : Int32) (h : RelE pc σ υ) : ∃ r σ' υ', c_X8_wins p1 p2 σ = some (r, σ') ∧ c_X9_wins p1 p2 υ = some (r, υ') ∧ RelE pc σ' υ' := by
  have hh := h
  obtain ⟨n, lks, tc, t, ev, h⟩ := h
  have H := h
  obtain ⟨⟨⟨h0, hn⟩, hl, hf, hj, ⟨hs, hk⟩, hs2, hk2, e⟩, ⟨⟨hc, hp, hp2, hpl⟩, _⟩, _⟩ := h
  have bad : ∃ r σ' υ', some ((-4611686018427387904 : Int64), σ) = some (r, σ') ∧ some ((-4611686018427387904 : Int64), υ) = some (r, υ') ∧ RelE pc σ' υ' := ⟨_, σ, υ, rfl, rfl, hh⟩
  rw [c_X8_wins, c_X9_wins, m_isPlan hp2 hc, bi2_s]
  rcases x_planAt (p := p1) hp hc (fun k hk3 => (hpl k hk3).1) with ⟨c, e1⟩ | ⟨k, hk3, rfl, e1⟩
  · rw [e1, bi2_s, mo_0, has_no c, if_pos rfl]; exact bad
  rw [e1, bi2_s, mo_1, has_yes hk3 (by omega), if_neg one_ne, in_01, bi2_s]
  rcases two_cases p2 with c | ⟨c, c2⟩ | ⟨c, c2, c3⟩
  · rw [if_pos c, if_pos c, if_pos rfl]; exact bad
  · rw [if_neg c, if_pos c2, if_neg c, if_pos c2, if_pos rfl]; exact bad
  rw [if_neg c, if_neg c2, if_neg c, if_neg c2, if_neg one_ne, few_x hs hn, few_m hs2 hn, bi2_s, bi2_s]
  by_cases c7 : n ≤ 7
  · rw [if_pos c7, if_pos c7, if_pos rfl, if_neg one_ne]
    rcases c3 with rfl | rfl
    · obtain ⟨-, q, w, hq, hw, a1, a2, a3, a4⟩ := hpl k hk3
      obtain ⟨σ', υ', e2, e3, V1, V2, R, _⟩ := Tl H c7 (Or.inr ⟨k, hk3, rfl⟩) hq hw a1 a2
      rw [if_pos rfl, if_neg (by decide), if_pos (inb_nI (by omega) (by omega)), if_pos (inb_nI (by omega) (by omega)), ix_nI (by omega), a3, a4, e2, bi2_s, mr_s, e3, bi1_s, V1.1, V2.1]
      have := (fin_nn (e := ev t) (q := q) (w := w) (lks := lks) h0 c7).1
      rw [nI_l (by omega)]
      exact ⟨_, σ', υ', rfl, rfl, n, lks, tc, t, ev, R⟩
    · rw [if_neg one_ne, if_pos rfl, hs, hs2, x_fac h0 hn, m_fac h0 hn, bi2_s, bi2_s]
      exact ⟨_, σ, υ, rfl, rfl, hh⟩
  · rw [if_neg c7, if_neg c7, if_neg one_ne, if_pos rfl]; exact bad
theorem Op_worst {pc : Nat} {σ υ : HS} (p1 p2 : Int32) (h : RelE pc σ υ) : ∃ r σ' υ', c_X8_worst p1 p2 σ = some (r, σ') ∧ c_X9_worst p1 p2 υ = some (r, υ') ∧ RelE pc σ' υ' := by
  have hh := h
  obtain ⟨n, lks, tc, t, ev, h⟩ := h
  have H := h
  obtain ⟨⟨⟨h0, hn⟩, hl, hf, hj, ⟨hs, hk⟩, hs2, hk2, e⟩, ⟨⟨hc, hp, hp2, hpl⟩, _⟩, _⟩ := h
  have bad : ∀ v : Int32, ∃ r σ' υ', some (v, σ) = some (r, σ') ∧ some (v, υ) = some (r, υ') ∧ RelE pc σ' υ' := fun v => ⟨_, σ, υ, rfl, rfl, hh⟩
  rw [c_X8_worst, c_X9_worst, m_isPlan hp2 hc, bi2_s]
  rcases x_planAt (p := p1) hp hc (fun k hk3 => (hpl k hk3).1) with ⟨c, e1⟩ | ⟨k, hk3, rfl, e1⟩
  · rw [e1, bi2_s, mo_0, has_no c, if_pos rfl]; exact bad _
  rw [e1, bi2_s, mo_1, has_yes hk3 (by omega), if_neg one_ne, in_01, bi2_s]
  rcases two_cases p2 with c | ⟨c, c2⟩ | ⟨c, c2, c3⟩
  · rw [if_pos c, if_pos c, if_pos rfl]; exact bad _
  · rw [if_neg c, if_neg (fun z => le_iff_nlt.mp z c2), if_neg c, if_pos c2, if_pos rfl]; exact bad _
  rw [if_neg c, if_pos (le_iff_nlt.mpr c2), if_neg c, if_neg c2, if_neg one_ne, few_x hs hn, few_m hs2 hn, bi2_s, bi2_s]
  by_cases c7 : n ≤ 7
  · obtain ⟨-, q, w, hq, hw, a1, a2, a3, a4⟩ := hpl k hk3
    obtain ⟨σ', υ', e2, e3, V1, V2, R, _⟩ := Tl H c7 (Or.inr ⟨k, hk3, rfl⟩) hq hw a1 a2
    rw [if_pos c7, if_pos c7, if_pos rfl, if_neg one_ne, if_pos (inb_nI (by omega) (by omega)), if_pos (inb_nI (by omega) (by omega)), ix_nI (by omega), a3, a4, e2, bi2_s, mr_s, mr_s, e3, bi1_s, V1.2.2.1, V2.2.2.1, V1.2.2.2, V2.2.2.2]
    rcases c3 with rfl | rfl
    · rw [if_pos rfl, if_pos rfl]; exact ⟨_, σ', υ', rfl, rfl, n, lks, tc, t, ev, R⟩
    · rw [if_neg one_ne, if_neg one_ne]; exact ⟨_, σ', υ', rfl, rfl, n, lks, tc, t, ev, R⟩
  · rw [if_neg c7, if_neg c7, if_neg one_ne, if_pos rfl]; exact bad _
theorem Op_costs {pc : Nat} {σ υ : HS} (p1 : Int32) (h : RelE pc σ υ) : ∃ r σ' υ', c_X8_costs p1 σ = some (r, σ') ∧ c_X9_costs p1 υ = some (r, υ') ∧ RelE pc σ' υ' := by
  have hh := h
  obtain ⟨n, lks, tc, t, ev, h⟩ := h
  have H := h
  obtain ⟨⟨⟨h0, hn⟩, hl, hf, hj, ⟨hs, hk⟩, hs2, hk2, e⟩, ⟨⟨hc, hp, hp2, hpl⟩, _, _, _, _, _, ⟨_, f1, f2⟩⟩, _⟩ := h
  have bad : ∃ r σ' υ', some ((-4611686018427387904 : Int64), σ) = some (r, σ') ∧ some ((-4611686018427387904 : Int64), υ) = some (r, υ') ∧ RelE pc σ' υ' := ⟨_, σ, υ, rfl, rfl, hh⟩
  rw [c_X8_costs, c_X9_costs, m_isPlan hp2 hc, bi2_s]
  rcases x_planAt (p := p1) hp hc (fun k hk3 => (hpl k hk3).1) with ⟨c, e1⟩ | ⟨k, hk3, rfl, e1⟩
  · rw [e1, bi2_s, mo_0, has_no c, if_pos rfl]; exact bad
  rw [e1, bi2_s, mo_1, has_yes hk3 (by omega), if_neg one_ne, few_x hs hn, few_m hs2 hn, bi2_s, bi2_s]
  by_cases c7 : n ≤ 7
  · obtain ⟨σ1, υ1, e2, e3, V1, V2, R, o1, o2⟩ := Tl H c7 (Or.inl rfl) (by omega) (by omega) f1 f2
    obtain ⟨⟨hc', hp', hp2', hpl'⟩, _⟩ := R.2.1
    have ht6 : t < 6 := by have h1 := H.2.1.2.2.1.1; have h2 := H.2.1.2.1.1.2; omega
    obtain ⟨-, q, w, hq, hw, a1, a2, a3, a4⟩ := hpl k hk3
    have p1' : ∀ j, gI σ1 (76 + 2 * k) j = gI σ (76 + 2 * k) j := fun j => o1.1 _ _ (by unfold Zt SXt; omega)
    obtain ⟨σ2, υ2, e4, e5, V3, V4, R2, o3, o4⟩ := Tl R c7 (Or.inr ⟨k, hk3, rfl⟩) hq hw (by rw [p1']; exact a1) (by rw [p1']; exact a2)
    have b3 : gI υ1 5 = gI υ 5 := o2.row fun k z => by unfold Zq at z; omega
    have b4 : gI υ1 6 = gI υ 6 := o2.row fun k z => by unfold Zq at z; omega
    rw [if_pos c7, if_pos c7, if_pos rfl, if_neg one_ne, e2, bi2_s, mr_s, e4, bi2_s, mr_s, show c_X9_goesAll 2 0 υ = some υ1 from e3, bi1_s, if_pos (inb_nI (by omega) (by omega)), if_pos (inb_nI (by omega) (by omega)), ix_nI (by omega), b3, b4, a3, a4, e5, bi1_s, V1.2.1, V2.2.1, V3.2.1, V4.2.1]
    exact ⟨_, σ2, υ2, rfl, rfl, n, lks, tc, t, ev, R2⟩
  · rw [if_neg c7, if_neg c7, if_neg one_ne, if_pos rfl]; exact bad
/-! the greatest common divisor, by both -/
theorem lrm_N {a c : Nat} (ha : a < 2 ^ 31) (h0 : 0 < c) (hc : c < 2 ^ 31) : lrm (lN a) (lN c) = lN (a % c) := pk_lRem (by omega) h0 (by omega)
theorem lN_0 {a : Nat} (ha : a < 2 ^ 31) : lg_cmp (lN a) 0 = 0 ↔ a = 0 := by
  rw [lg_cmp_eq, show (0 : Int64) = lN 0 from rfl, lN_eq ha (by omega)]
theorem half {a c : Nat} (h0 : 0 < a % c) (hc : 0 < c) : 2 * (c % (a % c)) < c := by
  have h1 := Nat.mod_lt a hc
  have h2 := Nat.mod_lt c h0
  have h3 := Nat.mod_add_div c (a % c)
  have h4 : 1 ≤ c / (a % c) := Nat.div_pos (by omega) h0
  have h5 : a % c * 1 ≤ a % c * (c / (a % c)) := Nat.mul_le_mul_left _ h4
  omega
theorem x_gcdL {σ : HS} : ∀ (k F a c i : Nat), c < 2 ^ k → 2 * k + 2 ≤ F → i + 2 * k + 2 ≤ 200 → a < 2 ^ 31 → c < 2 ^ 31 → c_X8_commonDivisor_3 F (lN a) (lN c) (nI i) σ = some (lN (Nat.gcd a c), σ) := by
  have stop : ∀ (F a i : Nat), 1 ≤ F → i < 200 → c_X8_commonDivisor_3 F (lN a) (lN 0) (nI i) σ = some (lN (Nat.gcd a 0), σ) := by
    intro F a i hF hi
    obtain ⟨F, rfl⟩ : ∃ F', F = F' + 1 := ⟨F - 1, by omega⟩
    rw [c_X8_commonDivisor_3, if_neg (by rw [show (200 : Int32) = nI 200 from rfl, nI_leI (by omega) (by omega)]; omega), if_pos ((lN_0 (by omega)).mpr rfl), Nat.gcd_zero_right]
  have one : ∀ (F a c i : Nat), i < 200 → 0 < c → a < 2 ^ 31 → c < 2 ^ 31 → c_X8_commonDivisor_3 (F + 1) (lN a) (lN c) (nI i) σ = c_X8_commonDivisor_3 F (lN c) (lN (a % c)) (nI (i + 1)) σ := by
    intro F a c i hi h0 ha hc
    rw [c_X8_commonDivisor_3, if_neg (by rw [show (200 : Int32) = nI 200 from rfl, nI_leI (by omega) (by omega)]; omega), if_neg (fun z => by have := (lN_0 hc).mp z; omega), if_neg (fun z => by rw [show (0 : Int64) = lN 0 from rfl, lN_eq hc (by omega)] at z; omega), lrm_N ha h0 hc, nI_1]
  intro k
  induction k with
  | zero =>
    intro F a c i h1 h2 h3 _ _
    have : c = 0 := by omega
    subst this
    exact stop F a i (by omega) (by omega)
  | succ k ih =>
    intro F a c i h1 h2 h3 ha hc
    obtain ⟨F, rfl⟩ : ∃ F', F = F' + 1 + 1 := ⟨F - 2, by omega⟩
    rcases Nat.eq_zero_or_pos c with rfl | c0
    · exact stop _ a i (by omega) (by omega)
    · have hlt := Nat.mod_lt a c0
      rw [one _ _ _ _ (by omega) c0 ha hc, Nat.gcd_comm, Nat.gcd_rec]
      rcases Nat.eq_zero_or_pos (a % c) with e0 | e0
      · rw [e0, stop _ c _ (by omega) (by omega), Nat.gcd_comm]
      · have hh := half e0 c0
        have hl2 := Nat.mod_lt c e0
        rw [one _ _ _ _ (by omega) e0 hc (by omega), Nat.gcd_rec]
        rw [Nat.gcd_comm]
        exact ih F (a % c) (c % (a % c)) (i + 2) (by rw [Nat.pow_succ] at h1; omega) (by omega) (by omega) (by omega) (by omega)
theorem m_gcdL {σ : HS} : ∀ (k F a c : Nat), c < 2 ^ k → 2 * k + 2 ≤ F → a < 2 ^ 31 → c < 2 ^ 31 → c_X9_common_6 F (lN a) (lN c) σ = some (lN (Nat.gcd a c), σ) := by
  have stop : ∀ (F a : Nat), 1 ≤ F → c_X9_common_6 F (lN a) (lN 0) σ = some (lN (Nat.gcd a 0), σ) := by
    intro F a hF
    obtain ⟨F, rfl⟩ : ∃ F', F = F' + 1 := ⟨F - 1, by omega⟩
    rw [c_X9_common_6, if_pos ((lN_0 (by omega)).mpr rfl), Nat.gcd_zero_right]
  have one : ∀ (F a c : Nat), 0 < c → a < 2 ^ 31 → c < 2 ^ 31 → c_X9_common_6 (F + 1) (lN a) (lN c) σ = c_X9_common_6 F (lN c) (lN (a % c)) σ := by
    intro F a c h0 ha hc
    rw [c_X9_common_6, if_neg (fun z => by have := (lN_0 hc).mp z; omega), if_neg (fun z => by rw [show (0 : Int64) = lN 0 from rfl, lN_eq hc (by omega)] at z; omega), lrm_N ha h0 hc]
  intro k
  induction k with
  | zero =>
    intro F a c h1 h2 _ _
    have : c = 0 := by omega
    subst this
    exact stop F a (by omega)
  | succ k ih =>
    intro F a c h1 h2 ha hc
    obtain ⟨F, rfl⟩ : ∃ F', F = F' + 1 + 1 := ⟨F - 2, by omega⟩
    rcases Nat.eq_zero_or_pos c with rfl | c0
    · exact stop _ a (by omega)
    · have hlt := Nat.mod_lt a c0
      rw [one _ _ _ c0 ha hc, Nat.gcd_comm, Nat.gcd_rec]
      rcases Nat.eq_zero_or_pos (a % c) with e0 | e0
      · rw [e0, stop _ c (by omega), Nat.gcd_comm]
      · have hh := half e0 c0
        have hl2 := Nat.mod_lt c e0
        rw [one _ _ _ e0 hc (by omega), Nat.gcd_rec]
        rw [Nat.gcd_comm]
        exact ih F (a % c) (c % (a % c)) (by rw [Nat.pow_succ] at h1; omega) (by omega) (by omega) (by omega)
theorem Op_mean {pc : Nat} {σ υ : HS} (p1 p2 : Int32) (h : RelE pc σ υ) : ∃ r σ' υ', c_X8_mean p1 p2 σ = some (r, σ') ∧ c_X9_mean p1 p2 υ = some (r, υ') ∧ RelE pc σ' υ' := by
  have hh := h
  obtain ⟨n, lks, tc, t, ev, h⟩ := h
  have H := h
  obtain ⟨⟨⟨h0, hn⟩, hl, hf, hj, ⟨hs, hk⟩, hs2, hk2, e⟩, ⟨⟨hc, hp, hp2, hpl⟩, _⟩, _⟩ := h
  have bad : ∃ r σ' υ', some ((-4611686018427387904 : Int64), σ) = some (r, σ') ∧ some ((-4611686018427387904 : Int64), υ) = some (r, υ') ∧ RelE pc σ' υ' := ⟨_, σ, υ, rfl, rfl, hh⟩
  rw [c_X8_mean, c_X9_mean, m_isPlan hp2 hc, bi2_s]
  rcases x_planAt (p := p1) hp hc (fun k hk3 => (hpl k hk3).1) with ⟨c, e1⟩ | ⟨k, hk3, rfl, e1⟩
  · rw [e1, bi2_s, mo_0, has_no c, if_pos rfl]; exact bad
  rw [e1, bi2_s, mo_1, has_yes hk3 (by omega), if_neg one_ne, in_01, bi2_s]
  rcases two_cases p2 with c | ⟨c, c2⟩ | ⟨c, c2, c3⟩
  · rw [if_pos c, if_pos c, if_pos rfl]; exact bad
  · rw [if_neg c, if_pos c2, if_neg c, if_pos c2, if_pos rfl]; exact bad
  rw [if_neg c, if_neg c2, if_neg c, if_neg c2, if_neg one_ne, few_x hs hn, few_m hs2 hn, bi2_s, bi2_s]
  by_cases c7 : n ≤ 7
  · obtain ⟨-, q, w, hq, hw, a1, a2, a3, a4⟩ := hpl k hk3
    obtain ⟨σ', υ', e2, e3, V1, V2, R, _⟩ := Tl H c7 (Or.inr ⟨k, hk3, rfl⟩) hq hw a1 a2
    obtain ⟨hJ, hN, hN0⟩ := facJ_N h0 c7
    obtain ⟨_, S, hS, eS⟩ := fin_nn (e := ev t) (q := q) (w := w) (lks := lks) h0 c7
    have g0 : 0 < Nat.gcd (facN n) S := Nat.gcd_pos_of_pos_left _ hN0
    have g1 : Nat.gcd (facN n) S ≤ facN n := Nat.gcd_le_left _ hN0
    have x1 : gI σ' 1 1 = nI n := R.1.2.2.2.2.1.1
    have y1 : gI υ' 0 8 = nI n := R.1.2.2.2.2.2.1
    have cx := x_gcdL (σ := σ') 16 FU (facN n) S 0 (by omega) (by rw [FU]; omega) (by omega) (by omega) (by omega)
    have cm := m_gcdL (σ := υ') 16 FU S (facN n) (by omega) (by rw [FU]; omega) (by omega) (by omega)
    rw [Nat.gcd_comm S] at cm
    have nz : ¬ lN (Nat.gcd (facN n) S) = 0 := fun z => by rw [show (0 : Int64) = lN 0 from rfl, lN_eq (by omega) (by omega)] at z; omega
    have c1 : c_X8_commonDivisor (lN (facN n)) (lN S) σ' = some (lN (Nat.gcd (facN n) S), σ') := cx
    have c2' : c_X9_common (lN S) (lN (facN n)) υ' = some (lN (Nat.gcd (facN n) S), υ') := cm
    have m63 : ∀ y, c_X9_mean_63 y υ' = some (y / lN (Nat.gcd (facN n) S), υ') := by
      intro y
      rw [c_X9_mean_63, y1, m_fac h0 hn, bi2_s, V2.2.1, eS, hJ, c2', bi2_s, if_neg nz]
    rw [if_pos c7, if_pos c7, if_pos rfl, if_neg one_ne, if_pos (inb_nI (by omega) (by omega)), if_pos (inb_nI (by omega) (by omega)), ix_nI (by omega), a3, a4, e2, bi2_s, mr_s, e3, bi1_s, x1, x_fac h0 hn, bi2_s, V1.2.1, eS, hJ, c1, bi2_s, if_pos (by rw [lg_cmp_ge, show (1 : Int64) = lN 1 from rfl, lN_le (by omega) (by omega)]; omega), V2.2.1, eS, m63, y1, m_fac h0 hn, bi2_s, hJ, m63]
    rcases c3 with rfl | rfl
    · rw [if_pos rfl, if_neg nz, if_pos rfl]; exact ⟨_, σ', υ', rfl, rfl, n, lks, tc, t, ev, R⟩
    · rw [if_neg one_ne, if_neg nz, if_neg one_ne]; exact ⟨_, σ', υ', rfl, rfl, n, lks, tc, t, ev, R⟩
  · rw [if_neg c7, if_neg c7, if_neg one_ne, if_pos rfl]; exact bad
