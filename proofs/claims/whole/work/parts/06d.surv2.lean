/-! THE SURVEYS OF BOTH -/
def t3 (σ : HS) (i k : Nat) (a b c : Int32) : HS := sI (sI (sI σ i k a) i (k + 1) b) i (k + 2) c
theorem HS_ext {σ τ : HS} (h1 : ∀ i k, gI σ i k = gI τ i k) (h2 : ∀ i k, gJ σ i k = gJ τ i k) (h3 : ∀ i k, gR σ i k = gR τ i k) : σ = τ := by
  obtain ⟨a, b, c⟩ := σ
  obtain ⟨a2, b2, c2⟩ := τ
  have e1 : a = a2 := funext fun i => funext fun k => h1 i k
  have e2 : b = b2 := funext fun i => funext fun k => h2 i k
  have e3 : c = c2 := funext fun i => funext fun k => h3 i k
  rw [e1, e2, e3]
theorem gI_t3 (σ : HS) (i k : Nat) (a b c : Int32) (j m : Nat) : gI (t3 σ i k a b c) j m = if j = i ∧ m = k + 2 then c else if j = i ∧ m = k + 1 then b else if j = i ∧ m = k then a else gI σ j m := by
  rw [t3, gI_sI, gI_sI, gI_sI]
theorem t3_0 (σ : HS) (i k : Nat) (a b c x : Int32) : sI (t3 σ i k a b c) i k x = t3 σ i k x b c := by
  refine HS_ext (fun j m => ?_) (fun j m => rfl) (fun j m => rfl)
  rw [gI_sI, gI_t3, gI_t3]
  by_cases h1 : j = i <;> by_cases h2 : m = k <;> simp [h1, h2]
theorem t3_1 (σ : HS) (i k : Nat) (a b c x : Int32) : sI (t3 σ i k a b c) i (k + 1) x = t3 σ i k a x c := by
  refine HS_ext (fun j m => ?_) (fun j m => rfl) (fun j m => rfl)
  rw [gI_sI, gI_t3, gI_t3]
  by_cases h1 : j = i <;> by_cases h2 : m = k + 1 <;> simp [h1, h2]
theorem t3_2 (σ : HS) (i k : Nat) (a b c x : Int32) : sI (t3 σ i k a b c) i (k + 2) x = t3 σ i k a b x := by
  refine HS_ext (fun j m => ?_) (fun j m => rfl) (fun j m => rfl)
  rw [gI_sI, gI_t3, gI_t3]
  by_cases h1 : j = i <;> by_cases h2 : m = k + 2 <;> simp [h1, h2]
theorem t3_ne {σ : HS} {i k : Nat} {a b c : Int32} {j m : Nat} (h : ¬ (j = i ∧ k ≤ m ∧ m ≤ k + 2)) : gI (t3 σ i k a b c) j m = gI σ j m := by
  rw [gI_t3, if_neg (by omega), if_neg (by omega), if_neg (by omega)]
theorem t3_row {σ : HS} {i k : Nat} {a b c : Int32} {j : Nat} (h : j ≠ i) : gI (t3 σ i k a b c) j = gI σ j := funext fun m => t3_ne (by omega)
noncomputable def svR (n : Nat) (f : Nat → Int32) : Nat → Nat
  | 0 => 0
  | b + 1 => svR n f b + @ite _ (lsB n f b) (Classical.propDecidable _) 1 0
noncomputable def svL (n : Nat) (f : Nat → Int32) : Nat → Nat
  | 0 => 0
  | b + 1 => @ite _ (lsB n f b) (Classical.propDecidable _) (max (svL n f b) (rl n f b)) (svL n f b)
def svM (f : Nat → Int32) : Nat → Nat
  | 0 => 0
  | b + 1 => svM f b + if f b = -1 then 1 else 0
theorem rl_le {n b : Nat} {f : Nat → Int32} (hn : n ≤ 12) (hb : b < n) : rl n f b ≤ n := by
  rcases rl_spec (f := f) hn hb with ⟨h, _⟩ | ⟨_, h, _⟩ <;> omega
theorem svR_le {n : Nat} {f : Nat → Int32} : ∀ b, svR n f b ≤ b := by
  intro b
  induction b with
  | zero => exact Nat.le_refl _
  | succ b ih => rw [svR]; split <;> omega
theorem svM_le {f : Nat → Int32} : ∀ b, svM f b ≤ b := by
  intro b
  induction b with
  | zero => exact Nat.le_refl _
  | succ b ih => rw [svM]; split <;> omega
theorem svL_le {n : Nat} {f : Nat → Int32} (hn : n ≤ 12) : ∀ b, b ≤ n → svL n f b ≤ n := by
  intro b
  induction b with
  | zero => intro _; exact Nat.zero_le _
  | succ b ih =>
    intro hb
    have h1 := ih (by omega)
    have h2 := rl_le (f := f) hn (show b < n by omega)
    rw [svL]
    split
    · omega
    · exact h1
theorem jxmax_nI {a b : Nat} (ha : a < 2 ^ 31) (hb : b < 2 ^ 31) : jxmax (nI a) (nI b) = nI (max a b) := by
  rw [jxmax]
  by_cases c : a < b
  · rw [if_pos ((nI_ltI ha hb).mpr c), Nat.max_eq_right (by omega)]
  · rw [if_neg (fun h => c ((nI_ltI ha hb).mp h)), Nat.max_eq_left (by omega)]
theorem x_walk {k19 : Int32 → Int32 → HS → Option HS} {i0 n b : Nat} {σ : HS} (hs : gI σ i0 1 = nI n) (hn : n ≤ 12) (hb : b < n) (hf : VL n (gI σ (i0 + 1))) (hj : VJ n (gI σ (i0 + 1))) (hnr : ¬ rch (gI σ (i0 + 1)) b b) : ∀ (F L : Nat) (sn : Int32), L ≤ n → n - L < F →
    (∀ i, i < L → wy (gI σ (i0 + 1)) b i ≠ -1 ∧ ∀ v, v < n → wy (gI σ (i0 + 1)) b i = nI v → ¬ rch (gI σ (i0 + 1)) b v) →
    (∀ i j, i < j → j < L → wy (gI σ (i0 + 1)) b i ≠ wy (gI σ (i0 + 1)) b j) →
    (∀ v, v < n → (bt sn v = true ↔ rch (gI σ (i0 + 1)) b v ∨ ∃ i, i < L ∧ wy (gI σ (i0 + 1)) b i = nI v)) →
    ∃ L' sn', 0 < L' ∧ L' ≤ n ∧ c_X0_survey_59 k19 F i0 sn (nI b) (wy (gI σ (i0 + 1)) b L) (nI L) σ = c_X0_survey_99 k19 i0 sn' (nI b) (wy (gI σ (i0 + 1)) b L') (nI L') σ ∧ (wy (gI σ (i0 + 1)) b L' = nI b ↔ lsB n (gI σ (i0 + 1)) b) ∧ (wy (gI σ (i0 + 1)) b L' = nI b → rl n (gI σ (i0 + 1)) b = L') ∧ ∀ v, v < n → (bt sn' v = true ↔ rch (gI σ (i0 + 1)) (b + 1) v) := by
  obtain ⟨f, ef⟩ : ∃ f, f = gI σ (i0 + 1) := ⟨_, rfl⟩
  rw [← ef] at hf hj hnr ⊢
  intro F
  induction F with
  | zero => intro L sn h1 h2; omega
  | succ F ih =>
    intro L sn hL hF hw hd hbt
    -- where it stops
    have stop : 0 < L → (wy f b L = -1 ∨ (∃ v, v < n ∧ wy f b L = nI v ∧ (rch f b v ∨ ∃ i, i < L ∧ wy f b i = nI v))) → c_X0_survey_59 k19 (F + 1) i0 sn (nI b) (wy f b L) (nI L) σ = c_X0_survey_99 k19 i0 sn (nI b) (wy f b L) (nI L) σ → ∃ L' sn', 0 < L' ∧ L' ≤ n ∧ c_X0_survey_59 k19 (F + 1) i0 sn (nI b) (wy f b L) (nI L) σ = c_X0_survey_99 k19 i0 sn' (nI b) (wy f b L') (nI L') σ ∧ (wy f b L' = nI b ↔ lsB n f b) ∧ (wy f b L' = nI b → rl n f b = L') ∧ ∀ v, v < n → (bt sn' v = true ↔ rch f (b + 1) v) := by
      intro h0 he e
      obtain ⟨h1, h2, h3⟩ := walk_end hn hb hf hj hnr h0 hL hw hd he
      exact ⟨L, sn, h0, hL, e, h1, h2, fun v hv => by rw [h3 v hv]; exact hbt v hv⟩
    by_cases c : n ≤ L
    · have : L = n := by omega
      subst this
      refine stop (by omega) ?_ ?_
      · rcases walk_full hn hb hf (fun i hi => (hw i hi).1) hd with h | ⟨v, hv, h, h2⟩
        · exact Or.inl h
        · exact Or.inr ⟨v, hv, h, Or.inr h2⟩
      · rw [c_X0_survey_59, hs, if_pos (by rw [nI_leI (by omega) (by omega)]; omega)]
    rcases wy_vl hn hb hf L with h | ⟨v, hv, h⟩
    · have h0 : 0 < L := by
        rcases Nat.eq_zero_or_pos L with e | e
        · subst e; exact absurd h (nI_neg (by omega))
        · exact e
      refine stop h0 (Or.inl h) ?_
      rw [c_X0_survey_59, hs, if_neg (by rw [nI_leI (by omega) (by omega)]; omega), if_pos h]
    by_cases c2 : bt sn v = true
    · have h1 := (hbt v hv).mp c2
      have h0 : 0 < L := by
        rcases Nat.eq_zero_or_pos L with e | e
        · subst e
          have : b = v := nI_inj (by omega) (by omega) h
          subst this
          rcases h1 with h1 | ⟨i, hi, _⟩
          · exact absurd h1 hnr
          · omega
        · exact e
      refine stop h0 (Or.inr ⟨v, hv, h, h1⟩) ?_
      rw [c_X0_survey_59, hs, if_neg (by rw [nI_leI (by omega) (by omega)]; omega), if_neg (by rw [h]; exact nI_neg (by omega)), if_neg (by rw [h, bit0 (by omega), c2]; decide)]
    · have c3 : bt sn v = false := by cases h : bt sn v with
        | true => exact absurd h c2
        | false => rfl
      have hnv : ¬ (rch f b v ∨ ∃ i, i < L ∧ wy f b i = nI v) := fun z => c2 ((hbt v hv).mpr z)
      have step : c_X0_survey_59 k19 (F + 1) i0 sn (nI b) (wy f b L) (nI L) σ = c_X0_survey_59 k19 F i0 (sn ||| (1 <<< (nI v &&& 31))) (nI b) (wy f b (L + 1)) (nI (L + 1)) σ := by
        rw [c_X0_survey_59, hs, if_neg (by rw [nI_leI (by omega) (by omega)]; omega), if_neg (by rw [h]; exact nI_neg (by omega)), if_pos (by rw [h, bit0 (by omega)]; exact c3), x_at hs hn (by rw [h]; exact Or.inr ⟨v, hv, rfl⟩), ← ef]
        show c_X0_survey_59 k19 F i0 (sn ||| (1 <<< (wy f b L &&& 31))) (nI b) (af f (wy f b L)) (nI L + 1) σ = _
        rw [nI_1, h, ← h]
        rfl
      rw [step]
      refine ih (L + 1) _ (by omega) (by omega) (fun i hi => ?_) (fun i j hij hjl => ?_) (fun w hw2 => ?_)
      · by_cases c4 : i < L
        · exact hw i c4
        · have : i = L := by omega
          subst this
          rw [h]
          refine ⟨nI_neg (by omega), fun w hw2 e => ?_⟩
          have := nI_inj (by omega) (by omega) e
          subst this
          exact fun z => hnv (Or.inl z)
      · by_cases c4 : j < L
        · exact hd i j hij c4
        · have : j = L := by omega
          subst this
          rw [h]
          exact fun e => hnv (Or.inr ⟨i, hij, e⟩)
      · rw [bit_or (by omega) (by omega), Bool.or_eq_true, hbt w hw2, decide_eq_true_eq]
        constructor
        · rintro ((h1 | ⟨i, hi, e⟩) | h1)
          · exact Or.inl h1
          · exact Or.inr ⟨i, by omega, e⟩
          · subst h1; exact Or.inr ⟨L, by omega, h⟩
        · rintro (h1 | ⟨i, hi, e⟩)
          · exact Or.inl (Or.inl h1)
          · by_cases c4 : i < L
            · exact Or.inl (Or.inr ⟨i, c4, e⟩)
            · have : i = L := by omega
              subst this
              rw [h] at e
              exact Or.inr (nI_inj (by omega) (by omega) e).symm
