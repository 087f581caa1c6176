theorem rch_dec {f : Nat → Int32} {b v : Nat} : rch f b v → rch f (b + 1) v := fun ⟨a, k, h, e⟩ => ⟨a, k, by omega, e⟩
theorem rch_closed {n b : Nat} {f : Nat → Int32} (hn : n ≤ 12) (hb : b < n) (hr : rch f b b) {v : Nat} : rch f (b + 1) v → rch f b v := by
  rintro ⟨a, k, ha, e⟩
  by_cases c : a < b
  · exact ⟨a, k, c, e⟩
  · have : a = b := by omega
    subst this
    obtain ⟨a2, k2, ha2, e2⟩ := hr
    exact ⟨a2, k2 + k, ha2, by rw [← wy_add (by omega) e2]; exact e⟩
theorem svR_t {n b : Nat} {f : Nat → Int32} (h : lsB n f b) : svR n f (b + 1) = svR n f b + 1 := by rw [svR, if_pos h]
theorem svR_f {n b : Nat} {f : Nat → Int32} (h : ¬ lsB n f b) : svR n f (b + 1) = svR n f b := by rw [svR, if_neg h, Nat.add_zero]
theorem svL_t {n b : Nat} {f : Nat → Int32} (h : lsB n f b) : svL n f (b + 1) = max (svL n f b) (rl n f b) := by rw [svL, if_pos h]
theorem svL_f {n b : Nat} {f : Nat → Int32} (h : ¬ lsB n f b) : svL n f (b + 1) = svL n f b := by rw [svL, if_neg h]
theorem svM_t {b : Nat} {f : Nat → Int32} (h : f b = -1) : svM f (b + 1) = svM f b + 1 := by rw [svM, if_pos h]
theorem svM_f {b : Nat} {f : Nat → Int32} (h : ¬ f b = -1) : svM f (b + 1) = svM f b := by rw [svM, if_neg h, Nat.add_zero]
theorem rch0 {f : Nat → Int32} {v : Nat} : ¬ rch f 0 v := fun ⟨a, k, h, _⟩ => by omega
/-- what the class's survey leaves -/
noncomputable def svX (i0 n : Nat) (σ : HS) (b : Nat) : HS := t3 σ i0 2 (nI (svR n (gI σ (i0 + 1)) b)) (nI (svL n (gI σ (i0 + 1)) b)) (nI (svM (gI σ (i0 + 1)) b))
theorem x_svL {i0 n : Nat} {σ : HS} (hs : gI σ i0 1 = nI n) (hn : n ≤ 12) (hf : VL n (gI σ (i0 + 1))) (hj : VJ n (gI σ (i0 + 1))) : ∀ (F b : Nat) (sn : Int32), b ≤ n → n - b < F → (∀ v, v < n → (bt sn v = true ↔ rch (gI σ (i0 + 1)) b v)) → c_X0_survey_19 F i0 sn (nI b) (svX i0 n σ b) = some (svX i0 n σ n) := by
  intro F
  induction F with
  | zero => intro b sn h1 h2; omega
  | succ F ih =>
    intro b sn hb hF hbt
    have hs2 : ∀ a b' c, gI (t3 σ i0 2 a b' c) i0 1 = nI n := fun a b' c => by rw [t3_ne (by omega), hs]
    have hr2 : ∀ a b' c, gI (t3 σ i0 2 a b' c) (i0 + 1) = gI σ (i0 + 1) := fun a b' c => t3_row (by omega)
    rw [c_X0_survey_19, svX, hs2]
    by_cases c : n ≤ b
    · rw [if_pos (by rw [nI_leI (by omega) (by omega)]; exact c)]
      have : b = n := by omega
      subst this
      rfl
    rw [if_neg (by rw [nI_leI (by omega) (by omega)]; exact c), x_at (hs2 _ _ _) hn (Or.inr ⟨b, by omega, rfl⟩), hr2, af_nI (by omega)]
    obtain ⟨f, ef⟩ : ∃ f, f = gI σ (i0 + 1) := ⟨_, rfl⟩
    -- both branches: the missing one counted
    have key : c_X0_survey_46 (fun z0 z1 z2 => c_X0_survey_19 F i0 z0 z1 z2) i0 sn (nI b) (t3 σ i0 2 (nI (svR n f b)) (nI (svL n f b)) (nI (svM f (b + 1)))) = some (svX i0 n σ n) := by
      rw [c_X0_survey_46]
      have h127 : ∀ sn', (∀ v, v < n → (bt sn' v = true ↔ rch f (b + 1) v)) → ∀ s, s = svX i0 n σ (b + 1) → c_X0_survey_127 (fun z0 z1 z2 => c_X0_survey_19 F i0 z0 z1 z2) i0 sn' (nI b) s = some (svX i0 n σ n) := by
        intro sn' h s e
        rw [c_X0_survey_127, nI_1, e]
        exact ih (b + 1) sn' (by omega) (by omega) (by rw [← ef]; exact h)
      by_cases c2 : bt sn b = true
      · have hr : rch f b b := by rw [ef]; exact (hbt b (by omega)).mp c2
        rw [if_neg (by rw [bit0 (by omega), c2]; decide)]
        refine h127 sn (fun v hv => ?_) _ ?_
        · rw [hbt v hv, ← ef]
          exact ⟨rch_dec, rch_closed hn (by omega) hr⟩
        · have hl : ¬ lsB n f b := rch_not hn (by omega) (by rw [ef]; exact hf) (by rw [ef]; exact hj) hr
          rw [svX, ← ef, svR_f hl, svL_f hl]
      · have c3 : bt sn b = false := by cases h : bt sn b with
          | true => exact absurd h c2
          | false => rfl
        have hnr : ¬ rch f b b := fun z => c2 ((hbt b (by omega)).mpr (by rw [← ef]; exact z))
        rw [if_pos (by rw [bit0 (by omega)]; exact c3)]
        have hfx : gI (t3 σ i0 2 (nI (svR n f b)) (nI (svL n f b)) (nI (svM f (b + 1)))) (i0 + 1) = f := by rw [hr2, ef]
        have W := x_walk (k19 := fun z0 z1 z2 => c_X0_survey_19 F i0 z0 z1 z2) (i0 := i0) (n := n) (b := b) (σ := t3 σ i0 2 (nI (svR n f b)) (nI (svL n f b)) (nI (svM f (b + 1)))) (hs2 _ _ _) hn (by omega) (by rw [hfx, ef]; exact hf) (by rw [hfx, ef]; exact hj) (by rw [hfx]; exact hnr) FU 0 sn (by omega) (by rw [FU]; omega) (fun i hi => by omega) (fun i j h1 h2 => by omega) (fun v hv => by
          rw [hfx, hbt v hv, ← ef]
          exact ⟨Or.inl, fun h => by rcases h with h | ⟨i, hi, _⟩; exact h; omega⟩)
        rw [hfx] at W
        obtain ⟨L', sn', h0, hL, e, h1, h2, h3⟩ := W
        have e0 : wy f b 0 = nI b := rfl
        rw [e0, nI_0] at e
        rw [e, c_X0_survey_99]
        by_cases c4 : wy f b L' = nI b
        · have hl := h1.mp c4
          rw [if_pos c4]
          show c_X0_survey_127 _ i0 sn' (nI b) (sI (sI _ i0 2 _) i0 3 _) = _
          refine h127 sn' h3 _ ?_
          have g2 : gI (t3 σ i0 2 (nI (svR n f b)) (nI (svL n f b)) (nI (svM f (b + 1)))) i0 2 = nI (svR n f b) := by rw [gI_t3]; simp
          rw [g2, t3_0]
          have g3 : ∀ x, gI (t3 σ i0 2 x (nI (svL n f b)) (nI (svM f (b + 1)))) i0 3 = nI (svL n f b) := fun x => by rw [gI_t3]; simp
          rw [g3, jxmax_nI (by have := svL_le (n := n) (f := f) hn b (by omega); omega) (by omega), nI_1, t3_1 σ i0 2, svX, ← ef]
          rw [svR_t hl, svL_t hl, h2 c4]
        · have hl : ¬ lsB n f b := fun z => c4 (h1.mpr z)
          rw [if_neg c4]
          refine h127 sn' h3 _ ?_
          rw [svX, ← ef, svR_f hl, svL_f hl]
    show (if gI σ (i0 + 1) b = -1 then c_X0_survey_46 _ i0 sn (nI b) (sI _ i0 4 _) else c_X0_survey_46 _ i0 sn (nI b) _) = _
    rw [← ef]
    by_cases c5 : f b = -1
    · rw [if_pos c5]
      have g4 : gI (t3 σ i0 2 (nI (svR n f b)) (nI (svL n f b)) (nI (svM f b))) i0 4 = nI (svM f b) := by rw [gI_t3]; simp
      rw [g4, t3_2 σ i0 2, nI_1]
      have : svM f (b + 1) = svM f b + 1 := by rw [svM, if_pos c5]
      rw [this] at key
      exact key
    · rw [if_neg c5]
      have : svM f (b + 1) = svM f b := by rw [svM, if_neg c5, Nat.add_zero]
      rw [this] at key
      exact key
theorem x_survey {i0 n : Nat} {σ : HS} (hs : gI σ i0 1 = nI n) (hn : n ≤ 12) (hf : VL n (gI σ (i0 + 1))) (hj : VJ n (gI σ (i0 + 1))) : c_X0_survey i0 σ = some (svX i0 n σ n) := by
  rw [c_X0_survey]
  have := x_svL hs hn hf hj FU 0 0 (by omega) (by rw [FU]; omega) (fun v hv => by rw [bt0]; exact ⟨fun h => absurd h (by decide), fun h => absurd h rch0⟩)
  exact this
/-! the reference's -/
noncomputable def svY (n : Nat) (σ : HS) (b : Nat) (r : Nat) : HS := t3 σ 0 10 (nI r) (nI (svL n (gI σ 4) b)) (nI (svM (gI σ 4) b))
theorem m_138 {k19 : Int32 → Int32 → HS → Option HS} {n b cnt : Nat} {f : Nat → Int32} {x4 : Int32} {σ : HS} (h : x4 = 0 ∨ x4 = 1) (hl : x4 = 1 ↔ lsB n f b) (hc : cnt = svR n f b) : c_X9_lays_138 k19 (nI cnt) (nI b) x4 σ = k19 (nI (svR n f (b + 1))) (nI (b + 1)) σ := by
  rw [c_X9_lays_138]
  rcases h with h | h
  · subst h
    have : ¬ lsB n f b := fun z => absurd (hl.mpr z) (by decide)
    rw [if_pos rfl, c_X9_lays_149, svR_f this, nI_1, ← nI_0, nI_add, Nat.add_zero, hc]
  · subst h
    have := hl.mp rfl
    rw [if_neg (by decide), c_X9_lays_149, svR_t this, nI_1, nI_1, hc]
/-- whether a box is the least of its ring, as it is gone round -/
theorem m_least {k19 : Int32 → Int32 → HS → Option HS} {n b r : Nat} {σ : HS} (hn : n ≤ 12) (hb : b < n) (hf : VL n (gI σ 4)) (hrl : rl n (gI σ 4) b = r) (hr : 0 < r) : ∀ (F k : Nat) (x4 : Int32), r - k < F → 0 < k → k ≤ r → (x4 = 0 ∨ x4 = 1) → (x4 = 1 ↔ ∀ j, 0 < j → j < k → ∀ v, v < n → wy (gI σ 4) b j = nI v → b < v) → c_X9_lays_99 k19 F (nI (svR n (gI σ 4) b)) (nI b) (nI r) x4 (wy (gI σ 4) b k) (nI k) σ = k19 (nI (svR n (gI σ 4) (b + 1))) (nI (b + 1)) σ := by
  obtain ⟨f, ef⟩ : ∃ f, f = gI σ 4 := ⟨_, rfl⟩
  rw [← ef] at hf hrl ⊢
  have hrn : r ≤ n := by rw [← hrl]; exact rl_le hn hb
  have hring : wy f b r = nI b := by
    rcases rl_spec (f := f) hn hb with ⟨h3, h4⟩ | ⟨h3, h4, h5, h6⟩
    · omega
    · rw [← hrl]; exact h5
  intro F
  induction F with
  | zero => intro k x4 h; omega
  | succ F ih =>
    intro k x4 hF h0 hk hx hl
    rw [c_X9_lays_99]
    by_cases c : k = r
    · subst c
      rw [if_pos (by rw [nI_leI (by omega) (by omega)]; omega)]
      refine m_138 hx ?_ rfl
      rw [hl, lsB, hrl]
      exact ⟨fun h => ⟨hr, h⟩, fun h => h.2⟩
    · rw [if_neg (by rw [nI_leI (by omega) (by omega)]; omega)]
      have hne : wy f b k ≠ -1 := by
        intro e
        have := wy_stay e (r - k)
        rw [show k + (r - k) = r by omega, hring] at this
        exact nI_neg (by omega) this
      rcases wy_vl hn hb hf k with h | ⟨v, hv, h⟩
      · exact absurd h hne
      have h121 : ∀ y0, (y0 = 0 ∨ y0 = 1) → (y0 = 1 ↔ ∀ j, 0 < j → j < k + 1 → ∀ v, v < n → wy f b j = nI v → b < v) → c_X9_lays_121 k19 (fun z0 z1 z2 z3 z4 z5 z6 => c_X9_lays_99 k19 F z0 z1 z2 z3 z4 z5 z6) (nI (svR n f b)) (nI b) (nI r) (wy f b k) (nI k) y0 σ = k19 (nI (svR n f (b + 1))) (nI (b + 1)) σ := by
        intro y0 hy hy2
        rw [c_X9_lays_121, h, if_pos (inb_nI (by omega) (by omega)), ix_nI (by omega), nI_1, ← ef]
        have e : f v = wy f b (k + 1) := by show f v = af f (wy f b k); rw [h, af_nI (by omega)]
        rw [e]
        exact ih (k + 1) y0 (by omega) (by omega) (by omega) hy hy2
      have hnot : ¬ (∀ j, 0 < j → j < k → ∀ v, v < n → wy f b j = nI v → b < v) ∨ v ≤ b → ∀ y : Int32, y = 0 → (y = 1 ↔ ∀ j, 0 < j → j < k + 1 → ∀ v, v < n → wy f b j = nI v → b < v) := by
        intro hh y hy
        subst hy
        refine ⟨fun e => absurd e (by decide), fun hall => ?_⟩
        exfalso
        rcases hh with hh | hh
        · exact hh (fun j h1 h2 => hall j h1 (by omega))
        · have := hall k h0 (by omega) v hv h
          omega
      by_cases c1 : x4 = 0
      · rw [if_pos c1, c_X9_lays_120]
        refine h121 0 (Or.inl rfl) (hnot (Or.inl fun z => ?_) 0 rfl)
        have := hl.mpr z
        rw [c1] at this
        exact absurd this (by decide)
      · rw [if_neg c1]
        have c2 : x4 = 1 := by rcases hx with h | h; exact absurd h c1; exact h
        by_cases c3 : v ≤ b
        · rw [if_pos (by rw [h, nI_leI (by omega) (by omega)]; exact c3), c_X9_lays_120]
          exact h121 0 (Or.inl rfl) (hnot (Or.inr c3) 0 rfl)
        · rw [if_neg (by rw [h, nI_leI (by omega) (by omega)]; exact c3)]
          refine h121 1 (Or.inr rfl) ⟨fun _ j h1 h2 w hw e => ?_, fun _ => rfl⟩
          by_cases c4 : j < k
          · exact hl.mp c2 j h1 c4 w hw e
          · have : j = k := by omega
            subst this
            rw [h] at e
            have := nI_inj (by omega) (by omega) e
            omega
theorem svL_ub {n : Nat} {f : Nat → Int32} (hn : n ≤ 12) (hf : VL n f) (hj : VJ n f) : ∀ b, b ≤ n → ∀ a, a < b → rl n f a ≤ svL n f b := by
  intro b
  induction b with
  | zero => intro _ a h; omega
  | succ b ih =>
    intro hb a ha
    have hm : svL n f b ≤ svL n f (b + 1) := by rw [svL]; split <;> omega
    by_cases c : a < b
    · exact Nat.le_trans (ih (by omega) a c) hm
    · have : a = b := by omega
      subst this
      by_cases hl : lsB n f a
      · rw [svL_t hl]; omega
      · rcases Nat.eq_zero_or_pos (rl n f a) with h | h
        · omega
        · obtain ⟨v, hv, e⟩ := ring_less hn (by omega) hf hj h hl
          have := ih (by omega) v hv
          omega
theorem svL_max {n b : Nat} {f : Nat → Int32} (hn : n ≤ 12) (hf : VL n f) (hj : VJ n f) (hb : b < n) : svL n f (b + 1) = max (svL n f b) (rl n f b) := by
  by_cases hl : lsB n f b
  · rw [svL_t hl]
  · rw [svL_f hl]
    rcases Nat.eq_zero_or_pos (rl n f b) with h | h
    · omega
    · obtain ⟨v, hv, e⟩ := ring_less hn hb hf hj h hl
      have := svL_ub hn hf hj b (by omega) v hv
      omega
theorem m_laysL {n : Nat} {σ : HS} (hs : gI σ 0 8 = nI n) (hn : n ≤ 12) (hf : VL n (gI σ 4)) (hj : VJ n (gI σ 4)) : ∀ (F b : Nat), b ≤ n → n - b < F → c_X9_lays_19 F (nI (svR n (gI σ 4) b)) (nI b) (svY n σ b 0) = some (svY n σ n (svR n (gI σ 4) n)) := by
  intro F
  induction F with
  | zero => intro b h1 h2; omega
  | succ F ih =>
    intro b hb hF
    have hs2 : ∀ a b' c, gI (t3 σ 0 10 a b' c) 0 8 = nI n := fun a b' c => by rw [t3_ne (by omega), hs]
    have hr2 : ∀ a b' c, gI (t3 σ 0 10 a b' c) 4 = gI σ 4 := fun a b' c => t3_row (by omega)
    have g11 : ∀ a b' c, gI (t3 σ 0 10 a b' c) 0 11 = b' := fun a b' c => by rw [gI_t3]; simp
    have g12 : ∀ a b' c, gI (t3 σ 0 10 a b' c) 0 12 = c := fun a b' c => by rw [gI_t3]; simp
    rw [c_X9_lays_19, svY, hs2]
    by_cases c : n ≤ b
    · rw [if_pos (by rw [nI_leI (by omega) (by omega)]; exact c)]
      have : b = n := by omega
      subst this
      show some (sI (t3 σ 0 10 _ _ _) 0 10 _) = _
      rw [t3_0]
      rfl
    rw [if_neg (by rw [nI_leI (by omega) (by omega)]; exact c), m_ring (hs2 _ _ _) hn (by omega) (by rw [hr2]; exact hf) (by rw [hr2]; exact hj), hr2]
    obtain ⟨f, ef⟩ : ∃ f, f = gI σ 4 := ⟨_, rfl⟩
    rw [← ef] at hf hj ⊢
    have hLb := svL_le (n := n) (f := f) hn b (by omega)
    have hrb := rl_le (n := n) (b := b) (f := f) hn (by omega)
    -- from the longest on
    have h50 : ∀ s : HS, s = t3 σ 0 10 (nI 0) (nI (svL n f b)) (nI (svM f b)) → c_X9_lays_50 (fun z0 z1 z2 => c_X9_lays_19 F z0 z1 z2) (nI (svR n f b)) (nI b) (nI (rl n f b)) (nI (svL n f (b + 1))) s = some (svY n σ n (svR n f n)) := by
      intro s e
      subst e
      rw [c_X9_lays_50]
      show (if inb (nI b) 12 = true then _ else none) = _
      rw [if_pos (inb_nI (by omega) (by omega)), t3_1 σ 0 10, hr2, ← ef, ix_nI (by omega), g12]
      have h73 : ∀ y : Int32, nI (svM f b) + y = nI (svM f (b + 1)) → c_X9_lays_73 (fun z0 z1 z2 => c_X9_lays_19 F z0 z1 z2) (nI (svR n f b)) (nI b) (nI (rl n f b)) (nI (svM f b)) y (t3 σ 0 10 (nI 0) (nI (svL n f (b + 1))) (nI (svM f b))) = some (svY n σ n (svR n f n)) := by
        intro y hy
        rw [c_X9_lays_73, hy]
        show (if nI (rl n f b) ≤ 0 then c_X9_lays_86 _ _ _ _ 0 (sI _ 0 12 _) else c_X9_lays_86 _ _ _ _ 1 (sI _ 0 12 _)) = _
        rw [t3_2 σ 0 10]
        have hnext : (fun z0 z1 z2 => c_X9_lays_19 F z0 z1 z2) (nI (svR n f (b + 1))) (nI (b + 1)) (t3 σ 0 10 (nI 0) (nI (svL n f (b + 1))) (nI (svM f (b + 1)))) = some (svY n σ n (svR n f n)) := by
          have := ih (b + 1) (by omega) (by omega)
          rw [svY, ← ef] at this
          exact this
        by_cases c0 : rl n f b = 0
        · have hl : ¬ lsB n f b := fun z => by have := z.1; omega
          rw [c0, nI_0, if_pos (by decide), c_X9_lays_86, if_pos (inb_nI (by omega) (by omega)), FU, c_X9_lays_99, if_pos (by decide)]
          rw [m_138 (n := n) (f := f) (Or.inl rfl) ⟨fun h => absurd h (by decide), fun h => absurd h hl⟩ rfl]
          exact hnext
        · rw [if_neg (by rw [← nI_0, nI_leI (by omega) (by omega)]; omega), c_X9_lays_86, if_pos (inb_nI (by omega) (by omega)), hr2, ← ef, ix_nI (by omega)]
          have e1 : f b = wy f b 1 := by show f b = af f (nI b); rw [af_nI (by omega)]
          have hfx : gI (t3 σ 0 10 (nI 0) (nI (svL n f (b + 1))) (nI (svM f (b + 1)))) 4 = f := by rw [hr2, ef]
          have W := m_least (k19 := fun z0 z1 z2 => c_X9_lays_19 F z0 z1 z2) (n := n) (b := b) (r := rl n f b) (σ := t3 σ 0 10 (nI 0) (nI (svL n f (b + 1))) (nI (svM f (b + 1)))) hn (by omega) (by rw [hfx]; exact hf) (by rw [hfx]) (by omega) FU 1 1 (by rw [FU]; omega) (by omega) (by omega) (Or.inr rfl) ⟨fun _ j h1 h2 => by omega, fun _ => rfl⟩
          rw [hfx, ← e1] at W
          exact W.trans hnext
      by_cases c5 : f b = -1
      · rw [if_pos c5]
        exact h73 1 (by rw [nI_1, svM_t c5])
      · rw [if_neg c5]
        exact h73 0 (by rw [← nI_0, nI_add, Nat.add_zero, svM_f c5])
    show (if nI (rl n f b) ≤ gI _ 0 11 then c_X9_lays_50 _ _ _ (nI (rl n f b)) (gI _ 0 11) _ else c_X9_lays_50 _ _ _ (nI (rl n f b)) (nI (rl n f b)) _) = _
    rw [g11]
    have hmx := svL_max hn hf hj (show b < n by omega)
    by_cases c6 : rl n f b ≤ svL n f b
    · rw [if_pos ((nI_leI (by omega) (by omega)).mpr c6)]
      have := h50 _ rfl
      rw [hmx, Nat.max_eq_left c6] at this
      exact this
    · rw [if_neg (fun z => c6 ((nI_leI (by omega) (by omega)).mp z))]
      have := h50 _ rfl
      rw [hmx, Nat.max_eq_right (by omega)] at this
      exact this
theorem m_lays {n : Nat} {σ : HS} (hs : gI σ 0 8 = nI n) (hn : n ≤ 12) (hf : VL n (gI σ 4)) (hj : VJ n (gI σ 4)) : c_X9_lays σ = some (svY n σ n (svR n (gI σ 4) n)) := by
  rw [c_X9_lays]
  have e : sI (sI (sI σ 0 11 0) 0 12 0) 0 10 0 = svY n σ 0 0 := by
    refine HS_ext (fun j m => ?_) (fun j m => rfl) (fun j m => rfl)
    rw [svY, gI_t3, gI_sI, gI_sI, gI_sI]
    show _ = if j = 0 ∧ m = 12 then nI 0 else if j = 0 ∧ m = 11 then nI 0 else if j = 0 ∧ m = 10 then nI 0 else gI σ j m
    rw [nI_0]
    by_cases h0 : j = 0 <;> by_cases h1 : m = 10 <;> by_cases h2 : m = 11 <;> by_cases h3 : m = 12 <;> simp [h0, h1, h2, h3] <;> omega
  show c_X9_lays_19 FU 0 0 (sI (sI (sI σ 0 11 0) 0 12 0) 0 10 0) = _
  rw [e]
  exact m_laysL hs hn hf hj FU 0 (by omega) (by rw [FU]; omega)
