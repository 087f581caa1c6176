/-! THE CHAIN OF ALL LAYINGS -/
theorem pv_alk {n : Nat} {f g : Nat → Int32} (e : alk n f g) : ∀ i, i < n → pv f i = pv g i := by
  intro i
  induction i with
  | zero => intro _; rfl
  | succ i ih => intro hi; rw [pv, pv, e i (by omega), e (i + 1) hi, ih (by omega)]
theorem sc_alk {n a : Nat} {f g : Nat → Int32} (e : alk n f g) (ha : a < n) : ∀ i, i < n → sc f a i = sc g a i := by
  intro i
  induction i with
  | zero => intro _; rfl
  | succ i ih => intro hi; rw [sc, sc, e a ha, e (i + 1) hi, ih (by omega)]
theorem sw_alk {n a b : Nat} {f g : Nat → Int32} (e : alk n f g) (ha : a < n) (hb : b < n) : alk n (swf f a b) (swf g a b) := by
  intro k hk
  rw [swf, swf, e a ha, e b hb, e k hk]
theorem rvf_alk {n : Nat} : ∀ (m a b : Nat) (f g : Nat → Int32), alk n f g → b < n → alk n (rvf m f a b) (rvf m g a b) := by
  intro m
  induction m with
  | zero => intro a b f g e _; exact e
  | succ m ih =>
    intro a b f g e hb
    rw [rvf, rvf]
    split
    · exact e
    · exact ih _ _ _ _ (sw_alk e (by omega) hb) (by omega)
theorem nxf_alk {n : Nat} {f g f' : Nat → Int32} (h0 : 0 < n) (e : alk n f g) (h : nxf n f = some f') : ∃ g', nxf n g = some g' ∧ alk n f' g' := by
  rw [nxf] at h
  rw [nxf, ← pv_alk e (n - 1) (by omega)]
  cases hp : pv f (n - 1) with
  | none => rw [hp] at h; cases h
  | some a =>
    rw [hp] at h
    have ha := (pv_lt (n - 1) hp).1
    have hl := sc_lt (f := f) (a := a) (n - 1)
    cases h
    refine ⟨_, rfl, ?_⟩
    rw [← sc_alk e (by omega) (n - 1) (by omega)]
    exact rvf_alk n _ _ _ _ (sw_alk e (by omega) (by omega)) (by omega)
theorem nxf_none {n : Nat} {f g : Nat → Int32} (h0 : 0 < n) (e : alk n f g) (h : nxf n f = none) : nxf n g = none := by
  rw [nxf] at h ⊢
  rw [← pv_alk e (n - 1) (by omega)]
  cases hp : pv f (n - 1) with
  | none => rfl
  | some a => rw [hp] at h; cases h
/-- what all layings from one on come to, each of them worked out by a step -/
def all {α : Type} (n : Nat) (st : (Nat → Int32) → α → α) : Nat → (Nat → Int32) → α → α
  | 0, f, x => st f x
  | F + 1, f, x => match nxf n f with
    | none => st f x
    | some g => all n st F g (st f x)
theorem all_alk {α : Type} {n : Nat} {st : (Nat → Int32) → α → α} (h0 : 0 < n) (hst : ∀ f g x, VL n f → VJ n f → alk n f g → st f x = st g x) : ∀ (F : Nat) (f g : Nat → Int32) (x : α), VL n f → VJ n f → alk n f g → all n st F f x = all n st F g x := by
  intro F
  induction F with
  | zero => intro f g x h1 h2 e; exact hst f g x h1 h2 e
  | succ F ih =>
    intro f g x h1 h2 e
    rw [all, all, hst f g x h1 h2 e]
    cases hp : nxf n f with
    | none => rw [nxf_none h0 e hp]
    | some f' =>
      obtain ⟨g', hg, e2⟩ := nxf_alk h0 e hp
      obtain ⟨k1, k2⟩ := nxf_keep h0 h1 h2 hp
      rw [hg]
      exact ih f' g' _ k1 k2 e2
/-! digits -/
def dgt (f : Nat → Int32) : Nat → Int32
  | 0 => 0
  | b + 1 => 10 * dgt f b + f b + 1
theorem dgt_alk {n : Nat} {f g : Nat → Int32} (e : alk n f g) : ∀ b, b ≤ n → dgt f b = dgt g b := by
  intro b
  induction b with
  | zero => intro _; rfl
  | succ b ih => intro hb; rw [dgt, dgt, ih (by omega), e b (by omega)]
theorem x_digL {i0 n : Nat} {σ : HS} (hs : gI σ i0 1 = nI n) (hn : n ≤ 12) : ∀ (F b : Nat), b ≤ n → n - b < F → c_X0_digits_4 F i0 (dgt (gI σ (i0 + 1)) b) (nI b) σ = some (dgt (gI σ (i0 + 1)) n, σ) := by
  intro F
  induction F with
  | zero => intro b _ h; omega
  | succ F ih =>
    intro b hb hF
    rw [c_X0_digits_4, hs]
    by_cases c : n ≤ b
    · have : b = n := by omega
      subst this
      rw [if_pos ((nI_leI (by omega) (by omega)).mpr c)]
    · rw [if_neg (fun z => c ((nI_leI (by omega) (by omega)).mp z)), x_at hs hn (Or.inr ⟨b, by omega, rfl⟩), bi2_s, af_nI (by omega), nI_1]
      exact ih (b + 1) (by omega) (by omega)
theorem x_digits {i0 n : Nat} {σ : HS} (hs : gI σ i0 1 = nI n) (hn : n ≤ 12) : c_X0_digits i0 σ = some (dgt (gI σ (i0 + 1)) n, σ) := by
  rw [c_X0_digits]
  exact x_digL hs hn FU 0 (by omega) (by rw [FU]; omega)
theorem m_digL {n : Nat} {σ : HS} (hs : gI σ 0 8 = nI n) (hn : n ≤ 12) : ∀ (F b : Nat), b ≤ n → n - b < F → c_X9_digits_4 F (dgt (gI σ 4) b) (nI b) σ = some (dgt (gI σ 4) n, σ) := by
  intro F
  induction F with
  | zero => intro b _ h; omega
  | succ F ih =>
    intro b hb hF
    rw [c_X9_digits_4, hs]
    by_cases c : n ≤ b
    · have : b = n := by omega
      subst this
      rw [if_pos ((nI_leI (by omega) (by omega)).mpr c)]
    · rw [if_neg (fun z => c ((nI_leI (by omega) (by omega)).mp z)), if_pos (inb_nI (by omega) (by omega)), ix_nI (by omega), nI_1]
      exact ih (b + 1) (by omega) (by omega)
theorem m_digits {n : Nat} {σ : HS} (hs : gI σ 0 8 = nI n) (hn : n ≤ 12) : c_X9_digits σ = some (dgt (gI σ 4) n, σ) := by
  rw [c_X9_digits]
  exact m_digL hs hn FU 0 (by omega) (by rw [FU]; omega)
/-! products -/
def facJ : Nat → Int64
  | 0 => 1
  | n + 1 => if n = 0 then 1 else facJ n * (nI (n + 1)).toInt64
theorem x_facL {σ : HS} {n : Nat} (hn : n ≤ 12) : ∀ (F k : Nat), 1 ≤ k → k ≤ n → n - k < F → c_X8_factorial_4 F (nI n) (facJ k) (nI (k + 1)) σ = some (facJ n, σ) := by
  intro F
  induction F with
  | zero => intro k _ _ h; omega
  | succ F ih =>
    intro k h1 hk hF
    rw [c_X8_factorial_4]
    by_cases c : n < k + 1
    · have : k = n := by omega
      subst this
      rw [if_pos ((nI_ltI (by omega) (by omega)).mpr c)]
    · rw [if_neg (fun z => c ((nI_ltI (by omega) (by omega)).mp z)), nI_1]
      have := ih (k + 1) (by omega) (by omega) (by omega)
      rw [facJ, if_neg (by omega)] at this
      exact this
theorem x_fac {σ : HS} {n : Nat} (h0 : 0 < n) (hn : n ≤ 12) : c_X8_factorial (nI n) σ = some (facJ n, σ) := by
  rw [c_X8_factorial]
  exact x_facL hn FU 1 (by omega) (by omega) (by rw [FU]; omega)
theorem m_facL {σ : HS} {n : Nat} (hn : n ≤ 12) : ∀ (F k : Nat), 1 ≤ k → k ≤ n → n - k < F → c_X9_all_4 F (nI n) (facJ k) (nI (k + 1)) σ = some (facJ n, σ) := by
  intro F
  induction F with
  | zero => intro k _ _ h; omega
  | succ F ih =>
    intro k h1 hk hF
    rw [c_X9_all_4]
    by_cases c : n < k + 1
    · have : k = n := by omega
      subst this
      rw [if_pos ((nI_ltI (by omega) (by omega)).mpr c)]
    · rw [if_neg (fun z => c ((nI_ltI (by omega) (by omega)).mp z)), nI_1]
      have := ih (k + 1) (by omega) (by omega) (by omega)
      rw [facJ, if_neg (by omega)] at this
      exact this
theorem m_fac {σ : HS} {n : Nat} (h0 : 0 < n) (hn : n ≤ 12) : c_X9_all (nI n) σ = some (facJ n, σ) := by
  rw [c_X9_all]
  exact m_facL hn FU 1 (by omega) (by omega) (by rw [FU]; omega)
