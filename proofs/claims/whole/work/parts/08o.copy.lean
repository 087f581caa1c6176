/-! COPY -/
theorem sub_lt {sz m a : Nat} (hz : sz ≤ 40) (hm : m < 2 ^ 31) (ha : a < 2 ^ 31) : (nI sz - nI m < nI a) ↔ sz < a + m := by
  rw [Int32.lt_iff_toInt_lt, Int32.toInt_sub, nI_toInt (by omega), nI_toInt hm, nI_toInt ha, Int.bmod_eq_of_le (by omega) (by omega)]
  omega
theorem x_hasAll {j sz : Nat} {p q : Int32} {σ : HS} (hz : sz ≤ 40) (h : gI σ j 2 = nI sz) : (∃ a m, p = nI a ∧ q = nI m ∧ a + m ≤ sz ∧ c_X3_hasAll j p q σ = some (1, σ)) ∨ ((p < 0 ∨ q < 0 ∨ ∃ a m, a < 2 ^ 31 ∧ m < 2 ^ 31 ∧ p = nI a ∧ q = nI m ∧ sz < a + m) ∧ c_X3_hasAll j p q σ = some (0, σ)) := by
  rw [c_X3_hasAll, h]
  by_cases c : p < 0
  · rw [if_pos c]; exact Or.inr ⟨Or.inl c, rfl⟩
  rw [if_neg c]
  by_cases c2 : q < 0
  · rw [if_pos c2]; exact Or.inr ⟨Or.inr (Or.inl c2), rfl⟩
  rw [if_neg c2]
  obtain ⟨a, ha, rfl⟩ := nI_of c
  obtain ⟨m, hm, rfl⟩ := nI_of c2
  by_cases c3 : nI sz < nI m
  · rw [if_pos c3]
    rw [nI_ltI (by omega) hm] at c3
    exact Or.inr ⟨Or.inr (Or.inr ⟨a, m, ha, hm, rfl, rfl, by omega⟩), rfl⟩
  rw [if_neg c3]
  by_cases c4 : nI sz - nI m < nI a
  · rw [if_pos c4]
    rw [sub_lt hz hm ha] at c4
    exact Or.inr ⟨Or.inr (Or.inr ⟨a, m, ha, hm, rfl, rfl, c4⟩), rfl⟩
  · rw [if_neg c4]
    rw [sub_lt hz hm ha] at c4
    exact Or.inl ⟨a, m, rfl, rfl, by omega, rfl⟩
def mvf (g : Nat → Int32) (A C m : Nat) : Nat → Int32 := fun i => if C ≤ i ∧ i < C + m then g (A + (i - C)) else g i
theorem m_cpL {s1 s2 a c m : Nat} {up : Bool} (hs1 : s1 < 4) (hs2 : s2 < 4) (ha : a + m ≤ 40) (hc : c + m ≤ 40) (hup : up = true ↔ s1 = s2 ∧ a < c) : ∀ (d F k : Nat) (σ : HS) (g : Nat → Int32), k + d = m → d + 1 ≤ F → (∀ i, gI σ 13 i = if 40 * s2 + c + cond up (m - k) 0 ≤ i ∧ i < 40 * s2 + c + cond up m k then g (40 * s1 + a + (i - (40 * s2 + c))) else g i) → ∃ τ, c_X9_copy_121 F (nI s1) (nI a) (nI s2) (nI c) (nI m) (tf up) (nI k) σ = some (nI m, τ) ∧ (∀ i, gI τ 13 i = mvf g (40 * s1 + a) (40 * s2 + c) m i) ∧ Off (fun i _ => i = 13) σ τ := by
  intro d
  induction d with
  | zero =>
    intro F k σ g hk hF hg
    obtain ⟨F, rfl⟩ : ∃ F', F = F' + 1 := ⟨F - 1, by omega⟩
    have : k = m := by omega
    subst this
    rw [c_X9_copy_121, if_pos (by rw [nI_leI (by omega) (by omega)]; omega)]
    refine ⟨σ, rfl, fun i => ?_, Off.rf⟩
    rw [hg i, mvf]
    cases up
    · rfl
    · show (if 40 * s2 + c + (k - k) ≤ i ∧ i < 40 * s2 + c + k then _ else _) = _
      rw [Nat.sub_self, Nat.add_zero]
  | succ d ih =>
    intro F k σ g hk hF hg
    obtain ⟨F, rfl⟩ : ∃ F', F = F' + 1 := ⟨F - 1, by omega⟩
    have st : ∀ q, q < m → gI σ 13 (40 * s1 + a + q) = g (40 * s1 + a + q) → c_X9_copy_145 (fun z0 z1 z2 z3 z4 z5 z6 z7 => c_X9_copy_121 F z0 z1 z2 z3 z4 z5 z6 z7) (nI s1) (nI a) (nI s2) (nI c) (nI m) (tf up) (nI k) (nI q) σ = c_X9_copy_121 F (nI s1) (nI a) (nI s2) (nI c) (nI m) (tf up) (nI (k + 1)) (sI σ 13 (40 * s2 + c + q) (g (40 * s1 + a + q))) := by
      intro q hq hv
      rw [c_X9_copy_145, show (40 : Int32) = nI 40 from rfl, nI_mul, nI_add, nI_add, if_pos (inb_nI (by omega) (by omega)), nI_mul, nI_add, nI_add, if_pos (inb_nI (by omega) (by omega)), lt_eqq, ix_nI (by omega), ix_nI (by omega), nI_1, hv]
    rw [c_X9_copy_121, if_neg (by rw [nI_leI (by omega) (by omega)]; omega)]
    cases up with
    | false =>
      have nup : ¬ (s1 = s2 ∧ a < c) := fun z => by have := hup.mpr z; cases this
      replace hg : ∀ i, gI σ 13 i = if 40 * s2 + c + 0 ≤ i ∧ i < 40 * s2 + c + k then g (40 * s1 + a + (i - (40 * s2 + c))) else g i := hg
      rw [if_pos (show tf false = 0 from rfl), st k (by omega) (by rw [hg, if_neg (by omega)])]
      obtain ⟨τ, e, h1, o⟩ := ih F (k + 1) (sI σ 13 (40 * s2 + c + k) (g (40 * s1 + a + k))) g (by omega) (by omega) (fun i => by
        show gI (sI σ 13 (40 * s2 + c + k) (g (40 * s1 + a + k))) 13 i = if 40 * s2 + c + 0 ≤ i ∧ i < 40 * s2 + c + (k + 1) then g (40 * s1 + a + (i - (40 * s2 + c))) else g i
        rw [gI_sI]
        by_cases q : i = 40 * s2 + c + k
        · rw [if_pos ⟨rfl, q⟩, if_pos (by omega)]
          exact congrArg g (by omega)
        · rw [if_neg (fun z => q z.2), hg i]
          by_cases w : 40 * s2 + c + 0 ≤ i ∧ i < 40 * s2 + c + k
          · rw [if_pos w, if_pos (by omega)]
          · rw [if_neg w, if_neg (by omega)])
      exact ⟨τ, e, h1, Off.tr (Off.sI rfl) o⟩
    | true =>
      obtain ⟨u1, u2⟩ := hup.mp rfl
      replace hg : ∀ i, gI σ 13 i = if 40 * s2 + c + (m - k) ≤ i ∧ i < 40 * s2 + c + m then g (40 * s1 + a + (i - (40 * s2 + c))) else g i := hg
      rw [if_neg (show ¬ tf true = 0 from one_ne), show nI m - 1 - nI k = nI (m - 1 - k) by rw [show (1 : Int32) = nI 1 from rfl, nI_sub (by omega), nI_sub (by omega)], st (m - 1 - k) (by omega) (by rw [hg, if_neg (by omega)])]
      obtain ⟨τ, e, h1, o⟩ := ih F (k + 1) (sI σ 13 (40 * s2 + c + (m - 1 - k)) (g (40 * s1 + a + (m - 1 - k)))) g (by omega) (by omega) (fun i => by
        show gI (sI σ 13 (40 * s2 + c + (m - 1 - k)) (g (40 * s1 + a + (m - 1 - k)))) 13 i = if 40 * s2 + c + (m - (k + 1)) ≤ i ∧ i < 40 * s2 + c + m then g (40 * s1 + a + (i - (40 * s2 + c))) else g i
        rw [gI_sI]
        by_cases q : i = 40 * s2 + c + (m - 1 - k)
        · rw [if_pos ⟨rfl, q⟩, if_pos (by omega)]
          exact congrArg g (by omega)
        · rw [if_neg (fun z => q z.2), hg i]
          by_cases w : 40 * s2 + c + (m - k) ≤ i ∧ i < 40 * s2 + c + m
          · rw [if_pos w, if_pos (by omega)]
          · rw [if_neg w, if_neg (by omega)])
      exact ⟨τ, e, h1, Off.tr (Off.sI rfl) o⟩
theorem m_cp {s1 s2 a c m : Nat} {up : Bool} {σ : HS} (hs1 : s1 < 4) (hs2 : s2 < 4) (ha : a + m ≤ 40) (hc : c + m ≤ 40) (hup : up = true ↔ s1 = s2 ∧ a < c) : ∃ τ, c_X9_copy_116 (nI s1) (nI a) (nI s2) (nI c) (nI m) (tf up) σ = some (nI m, τ) ∧ (∀ i, gI τ 13 i = mvf (gI σ 13) (40 * s1 + a) (40 * s2 + c) m i) ∧ Off (fun i _ => i = 13) σ τ := by
  refine m_cpL hs1 hs2 ha hc hup m FU 0 σ (gI σ 13) (by omega) (by rw [FU]; omega) (fun i => ?_)
  rw [if_neg]
  cases up
  · show ¬ (40 * s2 + c + 0 ≤ i ∧ i < 40 * s2 + c + 0)
    omega
  · show ¬ (40 * s2 + c + (m - 0) ≤ i ∧ i < 40 * s2 + c + m)
    omega
theorem RSh.mv {σ υ υ' : HS} {s1 s2 a c m so sz1 sz2 : Nat} (h : RSh σ υ) (hs1 : s1 < 4) (hs2 : s2 < 4) (h1 : gI σ (44 + 2 * s1) 2 = nI sz1) (h2 : gI σ (44 + 2 * s2) 2 = nI sz2) (g1 : gI σ (44 + 2 * s1) 1 = nI so) (hso : so ≤ 2) (hz1 : sz1 ≤ 40) (hz2 : sz2 ≤ 40) (ha : a + m ≤ sz1) (hc : c + m ≤ sz2) (o : Off (fun i _ => i = 13) υ υ') (h13 : ∀ i, gI υ' 13 i = mvf (gI υ 13) (40 * s1 + a) (40 * s2 + c) m i) : RSh (sA σ (44 + 2 * s2 + 1) (va_cpy (gI σ (44 + 2 * s1 + 1)) (gI σ (44 + 2 * s2 + 1)) a c m)) υ' := by
  intro u hu
  rw [gI_rowne (by omega), o.1 10 _ (by omega), o.1 11 _ (by omega), o.1 12 _ (by omega)]
  refine ⟨(h u hu).1, ?_⟩
  rcases (h u hu).2 with z | ⟨z0, so', sz, z1, z2, z3, z4, z5, z6, z7⟩
  · exact Or.inl z
  · refine Or.inr ⟨z0, so', sz, z1, z2, z3, z4, z5, z6, fun k hk => ?_⟩
    rw [h13, mvf]
    by_cases q : u = s2
    · subst q
      have e1 := nI_inj (by omega) (by omega) (z4.symm.trans h2)
      subst e1
      rw [gI_row, va_cpy]
      by_cases w : c ≤ k ∧ k < c + m
      · rw [if_pos w, if_pos (by omega)]
        rcases (h s1 hs1).2 with y | ⟨y0, so1, szy, y1, y2, y3, y4, y5, y6, y7⟩
        · rw [g1] at y
          exact absurd y.1 (nI_neg (by omega))
        · have e2 := nI_inj (by omega) (by omega) (y4.symm.trans h1)
          subst e2
          rw [y7 _ (by omega)]
          exact congrArg (gI υ 13) (by omega)
      · rw [if_neg w, if_neg (by omega)]; exact z7 k hk
    · rw [gI_rowne (by omega), if_neg (by omega)]; exact z7 k hk
theorem Op_copy {pc : Nat} {σ υ : HS} (p1 p2 p3 p4 p5 : Int32) (h : RelE pc σ υ) : ∃ r σ' υ', c_X8_copy p1 p2 p3 p4 p5 σ = some (r, σ') ∧ c_X9_copy p1 p2 p3 p4 p5 υ = some (r, υ') ∧ RelE pc σ' υ' := by
  have hh := h
  obtain ⟨n, lks, tc, t, ev, H⟩ := h
  have hS : RSh σ υ := H.2.1.2.2.2.2.2.1
  have bad : ∀ v : Int32, ∃ r σ' υ', some (v, σ) = some (r, σ') ∧ some (v, υ) = some (r, υ') ∧ RelE pc σ' υ' := fun v => ⟨_, σ, υ, rfl, rfl, hh⟩
  rw [c_X8_copy, c_X9_copy, m_shAt, bi2_s]
  rcases x_shAt (p := p1) hS with ⟨c, e1⟩ | ⟨s1, hs1, rfl, e1⟩
  · rcases x_shAt (p := p3) hS with ⟨c', e2⟩ | ⟨s2, hs2, rfl, e2⟩
    · rw [e1, bi2_s, e2, bi2_s, mo_0, sh_no c, if_pos rfl]; exact bad _
    · rw [e1, bi2_s, e2, bi2_s, mo_0, sh_no c, if_pos rfl]; exact bad _
  rw [e1, bi2_s, sh_yes hs1, if_neg one_ne, m_shAt, bi2_s]
  rcases x_shAt (p := p3) hS with ⟨c', e2⟩ | ⟨s2, hs2, rfl, e2⟩
  · rw [e2, bi2_s, mo_1, mo_0, sh_no c', if_pos rfl]; exact bad _
  have is1 := inb_nI hs1 (show 4 < 2 ^ 31 by omega)
  have is2 := inb_nI hs2 (show 4 < 2 ^ 31 by omega)
  rw [e2, bi2_s, mo_1, mo_1, sh_yes hs2, if_neg one_ne, if_pos is1, if_pos is1, if_pos is1, ix_nI (by omega), if_pos is2, if_pos is2, if_pos is2, ix_nI (by omega), miss_x, bi2_s]
  rcases (hS s1 hs1).2 with ⟨z1, z2⟩ | ⟨z0, so, sz, z1, z2, z3, z4, z5, z6, z7⟩
  · rw [if_pos z1, if_neg one_ne, z2, if_pos rfl]; exact bad _
  have nz : ¬ gI σ (44 + 2 * s1) 1 = -1 := by rw [z3]; exact nI_neg (by omega)
  rw [if_neg nz, if_pos rfl, z0, if_neg one_ne, miss_x, bi2_s]
  rcases (hS s2 hs2).2 with ⟨y1, y2⟩ | ⟨y0, so2, sz2, y1, y2, y3, y4, y5, y6, y7⟩
  · rw [if_pos y1, if_neg one_ne, y2, if_pos rfl]; exact bad _
  have ny : ¬ gI σ (44 + 2 * s2) 1 = -1 := by rw [y3]; exact nI_neg (by omega)
  rw [if_neg ny, if_pos rfl, y0, if_neg one_ne, z5, y5, z3, y3]
  by_cases c5 : nI so = nI so2
  · rw [if_pos c5, if_pos c5, z6, y6]
    rcases x_hasAll (p := p2) (q := p5) z2 z4 with ⟨a, m, rfl, rfl, ham, ex⟩ | ⟨c6, ex⟩
    · rw [ex, bi2_s, if_neg one_ne, if_neg (nI_pos (by omega)), if_neg (nI_pos (by omega)), if_neg (show ¬ nI sz - nI m < nI a by rw [sub_lt z2 (by omega) (by omega)]; omega)]
      rcases x_hasAll (p := p4) (q := nI m) y2 y4 with ⟨c, m', rfl, em, hcm, ey⟩ | ⟨c7, ey⟩
      · have := nI_inj (by omega) (by omega) em
        subst this
        rw [ey, bi2_s, if_neg one_ne, if_neg (nI_pos (by omega)), if_pos (show nI c ≤ nI sz2 - nI m by rw [le_iff_nlt, sub_lt y2 (by omega) (by omega)]; omega)]
        have hcp : cpo (nI a) (nI c) (nI m) 40 40 = true := by
          rw [cpo, ix_nI (by omega), ix_nI (by omega), ix_nI (by omega), decide_eq_true (nI_pos (by omega)), decide_eq_true (nI_pos (by omega)), decide_eq_true (nI_pos (by omega)), decide_eq_true (show a + m ≤ 40 by omega), decide_eq_true (show c + m ≤ 40 by omega)]
          rfl
        have done : ∀ up : Bool, (up = true ↔ s1 = s2 ∧ a < c) → ∃ r σ' υ', some (nI m, sA σ (44 + 2 * s2 + 1) (va_cpy (gI σ (44 + 2 * s1 + 1)) (gI σ (44 + 2 * s2 + 1)) a c m)) = some (r, σ') ∧ c_X9_copy_116 (nI s1) (nI a) (nI s2) (nI c) (nI m) (tf up) υ = some (r, υ') ∧ RelE pc σ' υ' := by
          intro up hup
          obtain ⟨u1, e3, h13, o⟩ := m_cp (σ := υ) hs1 hs2 (show a + m ≤ 40 by omega) (show c + m ≤ 40 by omega) hup
          exact ⟨_, _, u1, rfl, e3, n, lks, tc, t, ev, H.sh (Off.sA fun k => by unfold ZSx; omega) (o.mono fun i k z => by unfold ZSm; omega) (hS.mv hs1 hs2 z4 y4 z3 z1 z2 y2 ham hcm o h13)⟩
        rw [if_pos hcp, lt_eqq, ix_nI (by omega), ix_nI (by omega), ix_nI (by omega)]
        by_cases c8 : s1 = s2
        · rw [if_pos (show nI s1 = nI s2 by rw [c8])]
          by_cases c9 : c ≤ a
          · rw [if_pos (show nI c ≤ nI a by rw [nI_leI (by omega) (by omega)]; exact c9), c_X9_copy_115]
            exact done false ⟨fun z => (by cases z), fun z => by omega⟩
          · rw [if_neg (show ¬ nI c ≤ nI a by rw [nI_leI (by omega) (by omega)]; exact c9)]
            exact done true ⟨fun _ => ⟨c8, by omega⟩, fun _ => rfl⟩
        · rw [if_neg (show ¬ nI s1 = nI s2 from fun z => c8 (nI_inj (by omega) (by omega) z)), c_X9_copy_115]
          exact done false ⟨fun z => (by cases z), fun z => absurd z.1 c8⟩
      · rw [ey, bi2_s, if_pos rfl]
        by_cases w1 : p4 < 0
        · rw [if_pos w1]; exact bad _
        rw [if_neg w1]
        rcases c7 with z | z | ⟨c, m', hc, hm', rfl, em, hcm⟩
        · exact absurd z w1
        · exact absurd z (nI_pos (by omega))
        · have := nI_inj (by omega) hm' em
          subst this
          rw [if_neg (show ¬ nI c ≤ nI sz2 - nI m from fun z => (le_iff_nlt.mp z) ((sub_lt y2 hm' hc).mpr hcm))]
          exact bad _
    · rw [ex, bi2_s, if_pos rfl]
      by_cases w1 : p5 < 0
      · rw [if_pos w1]; exact bad _
      rw [if_neg w1]
      by_cases w2 : p2 < 0
      · rw [if_pos w2]; exact bad _
      rw [if_neg w2]
      by_cases w3 : p4 < 0
      · rw [if_pos w3]; exact bad _
      rw [if_neg w3]
      rcases c6 with z | z | ⟨a, m, ha, hm, rfl, rfl, ham⟩
      · exact absurd z w2
      · exact absurd z w1
      · rw [if_pos (show nI sz - nI m < nI a from (sub_lt z2 hm ha).mpr ham)]
        exact bad _
  · rw [if_neg c5, if_neg c5]; exact bad _
