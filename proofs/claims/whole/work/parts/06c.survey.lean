/-! WHAT A SURVEY COMES TO -/
def rch (f : Nat → Int32) (b v : Nat) : Prop := ∃ a k, a < b ∧ wy f a k = nI v
def lsB (n : Nat) (f : Nat → Int32) (b : Nat) : Prop := 0 < rl n f b ∧ ∀ k, 0 < k → k < rl n f b → ∀ v, v < n → wy f b k = nI v → b < v
theorem nI_inj {a b : Nat} (ha : a < 2 ^ 31) (hb : b < 2 ^ 31) (h : nI a = nI b) : a = b := (nI_eq ha hb).mp h
theorem wy_add {f : Nat → Int32} {b v : Nat} (hv : v < 2 ^ 31) : ∀ {k : Nat}, wy f b k = nI v → ∀ j, wy f v j = wy f b (k + j) := by
  intro k h j
  induction j with
  | zero => exact h.symm
  | succ j ih => show af f (wy f v j) = af f (wy f b (k + j)); rw [ih]
theorem rl_spec {n b : Nat} {f : Nat → Int32} (hn : n ≤ 12) (hb : b < n) : (rl n f b = 0 ∧ ∀ j, 0 < j → j ≤ n → wy f b j ≠ nI b) ∨ (0 < rl n f b ∧ rl n f b ≤ n ∧ wy f b (rl n f b) = nI b ∧ ∀ j, 0 < j → j < rl n f b → wy f b j ≠ nI b) := by
  have e1 : f b = wy f b 1 := by show f b = af f (nI b); rw [af_nI (by omega)]
  rw [rl, e1]
  rcases rlF_wy (f := f) (b := b) n 1 with ⟨h1, h2⟩ | ⟨j, hj1, h1, h2, h3⟩
  · refine Or.inl ⟨h1, fun j h0 hj => ?_⟩
    have := h2 (j - 1) (by omega)
    rw [show 1 + (j - 1) = j by omega] at this
    exact this
  · refine Or.inr ?_
    rw [h1]
    refine ⟨by omega, by omega, h2, fun i h0 hi => ?_⟩
    have := h3 (i - 1) (by omega)
    rw [show 1 + (i - 1) = i by omega] at this
    exact this
theorem rl_is {n b r : Nat} {f : Nat → Int32} (hn : n ≤ 12) (hb : b < n) (h0 : 0 < r) (hr : r ≤ n) (h1 : wy f b r = nI b) (h2 : ∀ j, 0 < j → j < r → wy f b j ≠ nI b) : rl n f b = r := by
  rcases rl_spec (f := f) hn hb with ⟨h3, h4⟩ | ⟨h3, h4, h5, h6⟩
  · exact absurd h1 (h4 r h0 hr)
  · by_cases c : rl n f b < r
    · exact absurd h5 (h2 _ h3 c)
    · by_cases c2 : r < rl n f b
      · exact absurd h1 (h6 r h0 c2)
      · omega
theorem wy_two {n a b : Nat} {f : Nat → Int32} (hn : n ≤ 12) (ha : a < n) (hb : b < n) (hf : VL n f) (hj : VJ n f) (p q : Nat) : ∀ k, wy f a (p + k) = wy f b (q + k) → wy f a (p + k) ≠ -1 → wy f a p = wy f b q := by
  intro k
  induction k with
  | zero => intro h _; exact h
  | succ k ih =>
    intro h hne
    have e1 : wy f a (p + (k + 1)) = af f (wy f a (p + k)) := rfl
    have e2 : wy f b (q + (k + 1)) = af f (wy f b (q + k)) := rfl
    have h1 : wy f a (p + k) ≠ -1 := by
      intro e
      apply hne
      rw [e1, e, af_neg]
    have h2 : wy f b (q + k) ≠ -1 := by
      intro e
      apply hne
      rw [h, e2, e, af_neg]
    rcases wy_vl hn ha hf (p + k) with h3 | ⟨v, hv, h3⟩
    · exact absurd h3 h1
    rcases wy_vl hn hb hf (q + k) with h4 | ⟨w, hw, h4⟩
    · exact absurd h4 h2
    have h5 : f v = f w := by rw [e1, e2, h3, h4, af_nI (by omega), af_nI (by omega)] at h; exact h
    have h6 : f v ≠ -1 := by
      intro e
      apply hne
      rw [e1, h3, af_nI (by omega), e]
    have := hj v w hv hw h5 h6
    subst this
    exact ih (by rw [h3, h4]) h1
theorem wy_per {f : Nat → Int32} {b r : Nat} (hb : b < 2 ^ 31) (h : wy f b r = nI b) : ∀ M, wy f b (M * r) = nI b := by
  intro M
  induction M with
  | zero => rw [Nat.zero_mul]; rfl
  | succ M ih => rw [Nat.succ_mul, ← wy_add hb ih r, h]
theorem wy_mod {f : Nat → Int32} {b r : Nat} (hb : b < 2 ^ 31) (h : wy f b r = nI b) (j : Nat) : wy f b j = wy f b (j % r) := by
  have := wy_add hb (wy_per hb h (j / r)) (j % r)
  rw [this, Nat.mul_comm, Nat.div_add_mod]
/-- who reaches a box of a ring is of the ring -/
theorem ring_of {n a b k : Nat} {f : Nat → Int32} (hn : n ≤ 12) (ha : a < n) (hb : b < n) (hf : VL n f) (hj : VJ n f) (hr : 0 < rl n f b) (h : wy f a k = nI b) : ∃ j, j < rl n f b ∧ wy f b j = nI a := by
  rcases rl_spec (f := f) hn hb with ⟨h3, h4⟩ | ⟨h3, h4, h5, h6⟩
  · omega
  have e : wy f a (0 + k) = wy f b ((k * rl n f b - k) + k) := by
    rw [Nat.zero_add, h]
    have h7 : k ≤ k * rl n f b := Nat.le_mul_of_pos_right k hr
    rw [Nat.sub_add_cancel h7, wy_per (by omega) h5]
  have := wy_two hn ha hb hf hj 0 _ k e (by rw [Nat.zero_add, h]; exact nI_neg (by omega))
  refine ⟨(k * rl n f b - k) % rl n f b, Nat.mod_lt _ hr, ?_⟩
  rw [← wy_mod (by omega) h5, ← this]
  rfl
theorem ring_len {n a b j : Nat} {f : Nat → Int32} (hn : n ≤ 12) (ha : a < n) (hb : b < n) (hf : VL n f) (hj : VJ n f) (hr : 0 < rl n f b) (h : wy f b j = nI a) : rl n f a = rl n f b := by
  rcases rl_spec (f := f) hn hb with ⟨h3, h4⟩ | ⟨h3, h4, h5, h6⟩
  · omega
  refine rl_is hn ha h3 h4 ?_ (fun i h0 hi e => ?_)
  · rw [wy_add (by omega) h, Nat.add_comm, ← wy_add (by omega) h5, h]
  · rw [wy_add (by omega) h] at e
    have := wy_back hn hb hf hj j i (by rw [e, h]) (by rw [e]; exact nI_neg (by omega))
    exact h6 i h0 hi this
/-- not the least of its ring: a lesser one has the same length -/
theorem ring_less {n b : Nat} {f : Nat → Int32} (hn : n ≤ 12) (hb : b < n) (hf : VL n f) (hj : VJ n f) (hr : 0 < rl n f b) (hl : ¬ lsB n f b) : ∃ a, a < b ∧ rl n f a = rl n f b := by
  have : ∃ k v, 0 < k ∧ k < rl n f b ∧ v < n ∧ wy f b k = nI v ∧ v ≤ b := by
    apply Classical.byContradiction
    intro c
    apply hl
    refine ⟨hr, fun k h0 hk v hv e => ?_⟩
    apply Classical.byContradiction
    intro c2
    exact c ⟨k, v, h0, hk, hv, e, by omega⟩
  obtain ⟨k, v, h0, hk, hv, e, hle⟩ := this
  refine ⟨v, ?_, ring_len hn hv hb hf hj hr e⟩
  rcases rl_spec (f := f) hn hb with ⟨h3, h4⟩ | ⟨h3, h4, h5, h6⟩
  · omega
  · by_cases c : v = b
    · subst c; exact absurd e (h6 k h0 hk)
    · omega
/-- reached from a lesser one: not the least of a ring -/
theorem rch_not {n b : Nat} {f : Nat → Int32} (hn : n ≤ 12) (hb : b < n) (hf : VL n f) (hj : VJ n f) (h : rch f b b) : ¬ lsB n f b := by
  rintro ⟨hr, hl⟩
  obtain ⟨a, k, hab, e⟩ := h
  obtain ⟨j, hjr, e2⟩ := ring_of hn (by omega) hb hf hj hr e
  cases j with
  | zero =>
    have : nI b = nI a := e2
    have := nI_inj (by omega) (by omega) this
    omega
  | succ j =>
    have := hl (j + 1) (by omega) hjr a (by omega) e2
    omega
/-- a walk that stops: where it stops, and what it says -/
theorem walk_end {n b L : Nat} {f : Nat → Int32} (hn : n ≤ 12) (hb : b < n) (hf : VL n f) (hj : VJ n f) (hnr : ¬ rch f b b) (hL0 : 0 < L) (hLn : L ≤ n)
    (hw : ∀ i, i < L → wy f b i ≠ -1 ∧ ∀ v, v < n → wy f b i = nI v → ¬ rch f b v)
    (hd : ∀ i j, i < j → j < L → wy f b i ≠ wy f b j)
    (he : wy f b L = -1 ∨ (∃ v, v < n ∧ wy f b L = nI v ∧ (rch f b v ∨ ∃ i, i < L ∧ wy f b i = nI v))) : (wy f b L = nI b ↔ lsB n f b) ∧ (wy f b L = nI b → rl n f b = L) ∧ ∀ v, v < n → (rch f (b + 1) v ↔ rch f b v ∨ ∃ i, i < L ∧ wy f b i = nI v) := by
  have hrl : wy f b L = nI b → rl n f b = L := by
    intro h
    refine rl_is hn hb hL0 hLn h (fun j h0 hjl e => ?_)
    exact hd 0 j h0 hjl e.symm
  refine ⟨⟨fun h => ?_, fun h => ?_⟩, hrl, fun v hv => ⟨fun h => ?_, fun h => ?_⟩⟩
  · have hr := hrl h
    refine ⟨by omega, fun k h0 hk v hv e => ?_⟩
    apply Classical.byContradiction
    intro c
    rw [hr] at hk
    by_cases c2 : v = b
    · subst c2; exact hd 0 k h0 hk e.symm
    · exact (hw k hk).2 v hv e ⟨v, 0, by omega, rfl⟩
  · obtain ⟨hr, hl⟩ := h
    rcases rl_spec (f := f) hn hb with ⟨h3, h4⟩ | ⟨h3, h4, h5, h6⟩
    · omega
    by_cases c : L < rl n f b
    · exfalso
      rcases he with e | ⟨v, hv, e, h | ⟨i, hi, e2⟩⟩
      · have := wy_stay e (rl n f b - L)
        rw [show L + (rl n f b - L) = rl n f b by omega, h5] at this
        exact nI_neg (by omega) this
      · obtain ⟨a, k, ha, e3⟩ := h
        apply hnr
        refine ⟨a, k + (rl n f b - L), ha, ?_⟩
        rw [← wy_add (by omega) e3, wy_add (by omega) e, show L + (rl n f b - L) = rl n f b by omega, h5]
      · have := wy_back hn hb hf hj i (L - i) (by rw [show i + (L - i) = L by omega, e, e2]) (by rw [show i + (L - i) = L by omega, e]; exact nI_neg (by omega))
        exact h6 (L - i) (by omega) (by omega) this
    · by_cases c2 : rl n f b < L
      · exact absurd h5.symm (hd 0 _ h3 c2)
      · rw [show L = rl n f b by omega]; exact h5
  · obtain ⟨a, k, ha, e⟩ := h
    by_cases c : a < b
    · exact Or.inl ⟨a, k, c, e⟩
    have : a = b := by omega
    subst this
    -- by strong induction on k
    have key : ∀ k, ∀ v, v < n → wy f a k = nI v → rch f a v ∨ ∃ i, i < L ∧ wy f a i = nI v := by
      intro k
      induction k using Nat.strongRecOn with
      | ind k ih =>
        intro v hv e
        by_cases c : k < L
        · exact Or.inr ⟨k, c, e⟩
        rcases he with e4 | ⟨w, hw4, e4, h | ⟨i, hi, e2⟩⟩
        · have := wy_stay e4 (k - L)
          rw [show L + (k - L) = k by omega, e] at this
          exact absurd this (nI_neg (by omega))
        · obtain ⟨a2, k2, ha2, e3⟩ := h
          refine Or.inl ⟨a2, k2 + (k - L), ha2, ?_⟩
          rw [← wy_add (by omega) e3, wy_add (by omega) e4, show L + (k - L) = k by omega, e]
        · refine ih (i + (k - L)) (by omega) v hv ?_
          rw [← wy_add (by omega) e2, wy_add (by omega) e4, show L + (k - L) = k by omega, e]
    exact key k v hv e
  · rcases h with ⟨a, k, ha, e⟩ | ⟨i, hi, e⟩
    · exact ⟨a, k, by omega, e⟩
    · exact ⟨b, i, by omega, e⟩
/-- after n steps that met nothing twice: the next one is met -/
theorem walk_full {n b : Nat} {f : Nat → Int32} (hn : n ≤ 12) (hb : b < n) (hf : VL n f) (hw : ∀ i, i < n → wy f b i ≠ -1) (hd : ∀ i j, i < j → j < n → wy f b i ≠ wy f b j) : wy f b n = -1 ∨ ∃ v, v < n ∧ wy f b n = nI v ∧ ∃ i, i < n ∧ wy f b i = nI v := by
  rcases wy_vl hn hb hf n with h | ⟨v, hv, h⟩
  · exact Or.inl h
  refine Or.inr ⟨v, hv, h, ?_⟩
  have hne : ∀ i, i ≤ n → wy f b i ≠ -1 := by
    intro i hi
    by_cases c : i < n
    · exact hw i c
    · rw [show i = n by omega, h]; exact nI_neg (by omega)
  have hv2 : ∀ i, i ≤ n → wy f b i = nI (ix (wy f b i)) ∧ ix (wy f b i) < n := by
    intro i hi
    rcases wy_vl hn hb hf i with h | ⟨v, hv, h⟩
    · exact absurd h (hne i hi)
    · rw [h, ix_nI (by omega)]; exact ⟨rfl, hv⟩
  obtain ⟨i, j, hij, hjn, e⟩ := pigeon n (fun i => ix (wy f b i)) (fun i hi => (hv2 i hi).2)
  have e2 : wy f b i = wy f b j := by rw [(hv2 i (by omega)).1, (hv2 j hjn).1]; exact congrArg nI e
  by_cases c : j < n
  · exact absurd e2 (hd i j hij c)
  · have : j = n := by omega
    subst this
    exact ⟨i, hij, by rw [e2, h]⟩
