/-! RINGS OF A LAYING -/
def vl (n : Nat) (x : Int32) : Prop := x = -1 ∨ ∃ v, v < n ∧ x = nI v
def VL (n : Nat) (f : Nat → Int32) : Prop := ∀ b, b < n → vl n (f b)
def VJ (n : Nat) (f : Nat → Int32) : Prop := ∀ a b, a < n → b < n → f a = f b → f a ≠ -1 → a = b
def af (f : Nat → Int32) (x : Int32) : Int32 := if x = -1 then -1 else f (ix x)
theorem nI_neg {v : Nat} (h : v < 2 ^ 31) : nI v ≠ -1 := by
  intro e
  have := nI_pos h
  rw [e] at this
  exact this (by decide)
theorem ix_nI {v : Nat} (h : v < 2 ^ 31) : ix (nI v) = v := nI_clamp h
theorem inb_nI {v n : Nat} (h : v < n) (hn : n < 2 ^ 31) : inb (nI v) n = true := by
  simp only [inb, Bool.and_eq_true, decide_eq_true_eq]
  exact ⟨nI_pos (by omega), by rw [nI_clamp (by omega)]; exact h⟩
theorem af_nI {f : Nat → Int32} {v : Nat} (h : v < 2 ^ 31) : af f (nI v) = f v := by
  rw [af, if_neg (nI_neg h), ix_nI h]
theorem af_neg {f : Nat → Int32} : af f (-1) = -1 := by rw [af, if_pos rfl]
theorem vl_af {n : Nat} {f : Nat → Int32} {x : Int32} (hn : n ≤ 12) (hf : VL n f) (hx : vl n x) : vl n (af f x) := by
  rcases hx with rfl | ⟨v, hv, rfl⟩
  · rw [af_neg]; exact Or.inl rfl
  · rw [af_nI (by omega)]; exact hf v hv
theorem x_at {i0 n : Nat} {σ : HS} {x : Int32} (hs : gI σ i0 1 = nI n) (hn : n ≤ 12) (hx : vl n x) : c_X0_at i0 x σ = some (af (gI σ (i0 + 1)) x, σ) := by
  rw [c_X0_at]
  rcases hx with rfl | ⟨v, hv, rfl⟩
  · rw [if_pos (by decide), af_neg]
  · rw [if_neg (nI_pos (by omega)), hs, if_neg (by rw [nI_leI (by omega) (by omega)]; omega), if_pos (inb_nI (by omega) (by omega)), af_nI (by omega), ix_nI (by omega)]
/-- the first of m steps that meets x1 -/
def rlF (f : Nat → Int32) (x1 : Int32) : Nat → Int32 → Nat → Nat
  | 0, _, _ => 0
  | m + 1, p, k => if p = x1 then k else rlF f x1 m (af f p) (k + 1)
def rl (n : Nat) (f : Nat → Int32) (b : Nat) : Nat := rlF f (nI b) n (f b) 1
theorem rlF_neg {f : Nat → Int32} {x1 : Int32} (h : x1 ≠ -1) : ∀ m k, rlF f x1 m (-1) k = 0 := by
  intro m
  induction m with
  | zero => intro k; rfl
  | succ m ih => intro k; rw [rlF, if_neg (fun e => h e.symm), af_neg, ih]
theorem rlF_le {f : Nat → Int32} {x1 : Int32} : ∀ m p k, rlF f x1 m p k < m + k ∨ m = 0 := by
  intro m
  induction m with
  | zero => intro p k; exact Or.inr rfl
  | succ m ih =>
    intro p k
    refine Or.inl ?_
    rw [rlF]
    split
    · omega
    · rcases ih (af f p) (k + 1) with h | h
      · omega
      · subst h
        rw [rlF]; omega
theorem x_ringL {i0 n b : Nat} {σ : HS} (hs : gI σ i0 1 = nI n) (hn : n ≤ 12) (hb : b < n) (hf : VL n (gI σ (i0 + 1))) : ∀ (F m : Nat) (p : Int32) (k : Nat), vl n p → m < F → k + m = n + 1 → c_X0_ringLength_8 F i0 (nI b) p (nI k) σ = some (nI (rlF (gI σ (i0 + 1)) (nI b) m p k), σ) := by
  intro F
  induction F with
  | zero => intro m p k hp hm; omega
  | succ F ih =>
    intro m p k hp hm hk
    rw [c_X0_ringLength_8, hs]
    cases m with
    | zero => rw [if_pos (by rw [nI_ltI (by omega) (by omega)]; omega), rlF, nI_0]
    | succ m =>
      rw [if_neg (by rw [nI_ltI (by omega) (by omega)]; omega)]
      by_cases c : p = -1
      · subst c
        rw [if_pos rfl, rlF_neg (nI_neg (by omega)), nI_0]
      · rw [if_neg c, rlF]
        by_cases c1 : p = nI b
        · rw [if_pos c1, if_pos c1]
        · rw [if_neg c1, if_neg c1, x_at hs hn hp]
          show c_X0_ringLength_8 F i0 (nI b) _ (nI k + 1) σ = _
          rw [nI_1]
          exact ih m _ _ (vl_af hn hf hp) (by omega) (by omega)
theorem x_ring {i0 n b : Nat} {σ : HS} (hs : gI σ i0 1 = nI n) (hn : n ≤ 12) (hb : b < n) (hf : VL n (gI σ (i0 + 1))) : c_X0_ringLength i0 (nI b) σ = some (nI (rl n (gI σ (i0 + 1)) b), σ) := by
  rw [c_X0_ringLength, x_at hs hn (Or.inr ⟨b, hb, rfl⟩)]
  show c_X0_ringLength_8 FU i0 (nI b) (af _ (nI b)) 1 σ = _
  rw [af_nI (by omega)]
  exact x_ringL hs hn hb hf FU n _ 1 (hf b hb) (by rw [FU]; omega) (by omega)
theorem m_ringL {n b : Nat} {σ : HS} (hs : gI σ 0 8 = nI n) (hn : n ≤ 12) (hb : b < n) (hf : VL n (gI σ 4)) : ∀ (F m : Nat) (p : Int32) (k : Nat), vl n p → m < F → k + m = n + 1 → c_X9_ringOf_9 F (nI b) p (nI k) σ = some (nI (rlF (gI σ 4) (nI b) (m + 1) p k), σ) := by
  intro F
  induction F with
  | zero => intro m p k hp hm; omega
  | succ F ih =>
    intro m p k hp hm hk
    rw [c_X9_ringOf_9, hs]
    by_cases c : p = -1
    · subst c
      rw [if_pos rfl, rlF_neg (nI_neg (by omega)), c_X9_ringOf_40, if_neg (fun e => nI_neg (by omega) e.symm), nI_0]
    · rw [if_neg c]
      by_cases c1 : p = nI b
      · rw [if_pos c1, rlF, if_pos c1, c_X9_ringOf_40, if_pos c1]
      · rw [if_neg c1, rlF, if_neg c1]
        cases m with
        | zero => rw [if_pos (by rw [nI_ltI (by omega) (by omega)]; omega), c_X9_ringOf_40, if_neg c1, rlF, nI_0]
        | succ m =>
          rw [if_neg (by rw [nI_ltI (by omega) (by omega)]; omega)]
          rcases hp with hp | ⟨v, hv, hp⟩
          · exact absurd hp c
          · subst hp
            rw [if_pos (inb_nI (by omega) (by omega)), ix_nI (by omega), nI_1, af_nI (by omega)]
            exact ih m _ _ (hf v hv) (by omega) (by omega)
/-- the way of a box -/
def wy (f : Nat → Int32) (b : Nat) : Nat → Int32
  | 0 => nI b
  | k + 1 => af f (wy f b k)
theorem wy_vl {n b : Nat} {f : Nat → Int32} (hn : n ≤ 12) (hb : b < n) (hf : VL n f) : ∀ k, vl n (wy f b k) := by
  intro k
  induction k with
  | zero => exact Or.inr ⟨b, hb, rfl⟩
  | succ k ih => exact vl_af hn hf ih
theorem wy_stay {f : Nat → Int32} {b k : Nat} (h : wy f b k = -1) : ∀ j, wy f b (k + j) = -1 := by
  intro j
  induction j with
  | zero => exact h
  | succ j ih => show af f (wy f b (k + j)) = -1; rw [ih, af_neg]
theorem rlF_wy {f : Nat → Int32} {b : Nat} : ∀ m k, (rlF f (nI b) m (wy f b k) k = 0 ∧ ∀ j, j < m → wy f b (k + j) ≠ nI b) ∨ (∃ j, j < m ∧ rlF f (nI b) m (wy f b k) k = k + j ∧ wy f b (k + j) = nI b ∧ ∀ i, i < j → wy f b (k + i) ≠ nI b) := by
  intro m
  induction m with
  | zero => intro k; exact Or.inl ⟨rfl, fun j hj => by omega⟩
  | succ m ih =>
    intro k
    rw [rlF]
    by_cases c : wy f b k = nI b
    · rw [if_pos c]
      exact Or.inr ⟨0, by omega, rfl, c, fun i hi => by omega⟩
    · rw [if_neg c]
      rcases ih (k + 1) with ⟨h1, h2⟩ | ⟨j, hj, h1, h2, h3⟩
      · refine Or.inl ⟨h1, fun j hj => ?_⟩
        cases j with
        | zero => exact c
        | succ j => have := h2 j (by omega); rw [show k + (j + 1) = k + 1 + j by omega]; exact this
      · refine Or.inr ⟨j + 1, by omega, ?_, ?_, fun i hi => ?_⟩
        · rw [show af f (wy f b k) = wy f b (k + 1) from rfl, h1]; omega
        · rw [show k + (j + 1) = k + 1 + j by omega]; exact h2
        · cases i with
          | zero => exact c
          | succ i => have := h3 i (by omega); rw [show k + (i + 1) = k + 1 + i by omega]; exact this
/-- more places than there are: two alike -/
theorem pigeon : ∀ (n : Nat) (g : Nat → Nat), (∀ i, i ≤ n → g i < n) → ∃ i j, i < j ∧ j ≤ n ∧ g i = g j := by
  intro n
  induction n with
  | zero => intro g h; have := h 0 (Nat.le_refl _); omega
  | succ n ih =>
    intro g h
    by_cases c : ∃ i, i ≤ n ∧ g i = g (n + 1)
    · obtain ⟨i, hi, e⟩ := c
      exact ⟨i, n + 1, by omega, by omega, e⟩
    · -- take the last value out
      obtain ⟨i, j, hij, hj, e⟩ := ih (fun i => if g i < g (n + 1) then g i else g i - 1) (fun i hi => by
        have h1 := h i (by omega)
        have h2 := h (n + 1) (Nat.le_refl _)
        have h3 : g i ≠ g (n + 1) := fun e => c ⟨i, hi, e⟩
        show (if g i < g (n + 1) then g i else g i - 1) < n
        split <;> omega)
      refine ⟨i, j, hij, by omega, ?_⟩
      have h3 : g i ≠ g (n + 1) := fun e => c ⟨i, by omega, e⟩
      have h4 : g j ≠ g (n + 1) := fun e => c ⟨j, by omega, e⟩
      split at e <;> split at e <;> omega
theorem wy_back {n b : Nat} {f : Nat → Int32} (hn : n ≤ 12) (hb : b < n) (hf : VL n f) (hj : VJ n f) : ∀ i d, wy f b i = wy f b (i + d) → wy f b (i + d) ≠ -1 → wy f b d = nI b := by
  intro i
  induction i with
  | zero => intro d h _; rw [Nat.zero_add] at h; exact h.symm
  | succ i ih =>
    intro d h hne
    rw [show i + 1 + d = i + d + 1 by omega] at h hne
    have h1 : wy f b i ≠ -1 := by
      intro e
      apply hne
      rw [← h]
      show af f (wy f b i) = -1
      rw [e, af_neg]
    have h2 : wy f b (i + d) ≠ -1 := by
      intro e
      apply hne
      show af f (wy f b (i + d)) = -1
      rw [e, af_neg]
    rcases wy_vl hn hb hf i with h3 | ⟨v, hv, h3⟩
    · exact absurd h3 h1
    rcases wy_vl hn hb hf (i + d) with h4 | ⟨w, hw, h4⟩
    · exact absurd h4 h2
    have h5 : f v = f w := by
      have : af f (wy f b i) = af f (wy f b (i + d)) := h
      rw [h3, h4, af_nI (by omega), af_nI (by omega)] at this
      exact this
    have h6 : f v ≠ -1 := by
      intro e
      apply hne
      show af f (wy f b (i + d)) = -1
      rw [h4, af_nI (by omega), ← h5, e]
    have := hj v w hv hw h5 h6
    subst this
    exact ih d (by rw [h3, h4]) h2
/-- a ring that closes at all closes within n steps -/
theorem wy_short {n b : Nat} {f : Nat → Int32} (hn : n ≤ 12) (hb : b < n) (hf : VL n f) (hj : VJ n f) {m : Nat} (hm : wy f b m = nI b) (h0 : 0 < m) : ∃ k, 0 < k ∧ k ≤ n ∧ wy f b k = nI b := by
  by_cases hmn : m ≤ n
  · exact ⟨m, h0, hmn, hm⟩
  have hne : ∀ i, i ≤ n → wy f b i ≠ -1 := by
    intro i hi e
    have := wy_stay e (m - i)
    rw [show i + (m - i) = m by omega, hm] at this
    exact nI_neg (by omega) this
  have hv : ∀ i, i ≤ n → wy f b i = nI (ix (wy f b i)) ∧ ix (wy f b i) < n := by
    intro i hi
    rcases wy_vl hn hb hf i with h | ⟨v, hv, h⟩
    · exact absurd h (hne i hi)
    · rw [h, ix_nI (by omega)]; exact ⟨rfl, hv⟩
  obtain ⟨i, j, hij, hjn, e⟩ := pigeon n (fun i => ix (wy f b i)) (fun i hi => (hv i hi).2)
  refine ⟨j - i, by omega, by omega, wy_back hn hb hf hj i (j - i) ?_ (hne _ (by omega))⟩
  rw [show i + (j - i) = j by omega, (hv i (by omega)).1, (hv j hjn).1]
  exact congrArg nI e
theorem rl_more {n b : Nat} {f : Nat → Int32} (hn : n ≤ 12) (hb : b < n) (hf : VL n f) (hj : VJ n f) : rlF f (nI b) (n + 1) (f b) 1 = rl n f b := by
  have e1 : f b = wy f b 1 := by show f b = af f (nI b); rw [af_nI (by omega)]
  rw [rl, e1]
  rcases rlF_wy (f := f) (b := b) (n + 1) 1 with ⟨h1, h2⟩ | ⟨j, hj1, h1, h2, h3⟩
  · rcases rlF_wy (f := f) (b := b) n 1 with ⟨h4, h5⟩ | ⟨j, hj2, h4, h5, h6⟩
    · rw [h1, h4]
    · exact absurd h5 (h2 j (by omega))
  · rcases rlF_wy (f := f) (b := b) n 1 with ⟨h4, h5⟩ | ⟨j2, hj2, h4, h5, h6⟩
    · obtain ⟨k, hk0, hkn, hk⟩ := wy_short hn hb hf hj h2 (by omega)
      have := h5 (k - 1) (by omega)
      rw [show 1 + (k - 1) = k by omega] at this
      exact absurd hk this
    · rw [h1, h4]
      by_cases c : j < j2
      · exact absurd h2 (h6 j c)
      · by_cases c2 : j2 < j
        · exact absurd h5 (h3 j2 c2)
        · omega
theorem m_ring {n b : Nat} {σ : HS} (hs : gI σ 0 8 = nI n) (hn : n ≤ 12) (hb : b < n) (hf : VL n (gI σ 4)) (hj : VJ n (gI σ 4)) : c_X9_ringOf (nI b) σ = some (nI (rl n (gI σ 4) b), σ) := by
  rw [c_X9_ringOf, if_pos (inb_nI (by omega) (by omega)), ix_nI (by omega)]
  have := m_ringL hs hn hb hf FU n (gI σ 4 b) 1 (hf b hb) (by rw [FU]; omega) (by omega)
  rw [rl_more hn hb hf hj] at this
  exact this
