/-! ORDER -/
def hwF (f : Nat → Int32) : Nat → Nat → Bool
  | 0, _ => true
  | m + 1, b => if f b < 0 then false else if 99 < f b then false else hwF f m (b + 1)
theorem x_hwL {j n : Nat} {σ : HS} (h : gI σ j 2 = nI n) (hn : n ≤ 12) : ∀ (F m b : Nat), m < F → b + m = n → c_X8_holdsWeights_2 F j (nI b) σ = some (tf (hwF (gI σ (j + 1)) m b), σ) := by
  intro F
  induction F with
  | zero => intro m b h; omega
  | succ F ih =>
    intro m b hF hb
    rw [c_X8_holdsWeights_2, h]
    cases m with
    | zero => rw [if_pos (by rw [nI_leI (by omega) (by omega)]; omega), hwF]; rfl
    | succ m =>
      rw [if_neg (by rw [nI_leI (by omega) (by omega)]; omega), x3_at h (by omega) (by omega), bi2_s, x3_at h (by omega) (by omega), bi2_s, hwF]
      by_cases c1 : gI σ (j + 1) b < 0
      · rw [if_pos c1, if_pos c1]; rfl
      rw [if_neg c1, if_neg c1]
      by_cases c2 : 99 < gI σ (j + 1) b
      · rw [if_neg (fun z => le_iff_nlt.mp z c2), if_pos c2]; rfl
      · rw [if_pos (le_iff_nlt.mpr c2), if_neg c2, nI_1]; exact ih m (b + 1) (by omega) (by omega)
theorem hw_ok {n : Nat} {f : Nat → Int32} : ∀ (m b : Nat), b + m = n → (∀ a, a < b → 0 ≤ f a) → hwF f m b = true → ∀ a, a < n → 0 ≤ f a := by
  intro m
  induction m with
  | zero => intro b hb h1 _ a ha; exact h1 a (by omega)
  | succ m ih =>
    intro b hb h1 h
    rw [hwF] at h
    by_cases c1 : f b < 0
    · rw [if_pos c1] at h; cases h
    rw [if_neg c1] at h
    by_cases c2 : 99 < f b
    · rw [if_pos c2] at h; cases h
    · rw [if_neg c2] at h
      refine ih (b + 1) (by omega) (fun a ha => ?_) h
      by_cases q : a = b
      · rw [q]; exact le_iff_nlt.mpr c1
      · exact h1 a (by omega)
def pkN (f : Nat → Int32) (i : Nat) : Option Nat → Nat
  | none => i
  | some j => if f i ≤ f j then j else i
def pk (f : Nat → Int32) (s : Int32) : Nat → Nat → Option Nat → Option Nat
  | 0, _, x => x
  | m + 1, i, x => if ((s >>> (nI i &&& 31)) &&& 1) = 0 then pk f s m (i + 1) (some (pkN f i x)) else pk f s m (i + 1) x
def cxA : Option Nat → Int32
  | none => 0
  | some j => nI j
def cxB (f : Nat → Int32) : Option Nat → Int32
  | none => -1
  | some j => f j
def mxA : Option Nat → Int32
  | none => -1
  | some j => nI j
theorem x_pkL {j n : Nat} {s : Int32} {σ : HS} (h : gI σ j 2 = nI n) (hn : n ≤ 12) (hp : ∀ a, a < n → 0 ≤ gI σ (j + 1) a) : ∀ (F m i : Nat) (x : Option Nat), m < F → i + m = n → c_X8_heaviestBut_7 F j s (cxA x) (cxB (gI σ (j + 1)) x) (nI i) σ = some (cxA (pk (gI σ (j + 1)) s m i x), σ) := by
  intro F
  induction F with
  | zero => intro m i x h; omega
  | succ F ih =>
    intro m i x hF hi
    rw [c_X8_heaviestBut_7, h]
    cases m with
    | zero => rw [if_pos (by rw [nI_leI (by omega) (by omega)]; omega), pk]
    | succ m =>
      rw [if_neg (by rw [nI_leI (by omega) (by omega)]; omega), pk]
      by_cases c : ((s >>> (nI i &&& 31)) &&& 1) = 0
      · rw [if_pos c, if_pos c, x3_at h (by omega) (by omega), bi2_s, x3_at h (by omega) (by omega), bi2_s, c_X8_heaviestBut_45, c_X8_heaviestBut_45, nI_1]
        cases x with
        | none =>
          have c2 : ¬ gI σ (j + 1) i ≤ -1 := by
            have := hp i (by omega)
            rw [Int32.le_iff_toInt_le] at this ⊢
            rw [show (0 : Int32).toInt = 0 by decide] at this
            rw [show (-1 : Int32).toInt = -1 by decide]
            omega
          rw [if_neg (show ¬ gI σ (j + 1) i ≤ cxB (gI σ (j + 1)) none from c2)]
          exact ih m (i + 1) (some i) (by omega) (by omega)
        | some k =>
          by_cases c2 : gI σ (j + 1) i ≤ gI σ (j + 1) k
          · rw [if_pos (show gI σ (j + 1) i ≤ cxB (gI σ (j + 1)) (some k) from c2), show pkN (gI σ (j + 1)) i (some k) = k from if_pos c2]
            exact ih m (i + 1) (some k) (by omega) (by omega)
          · rw [if_neg (show ¬ gI σ (j + 1) i ≤ cxB (gI σ (j + 1)) (some k) from c2), show pkN (gI σ (j + 1)) i (some k) = i from if_neg c2]
            exact ih m (i + 1) (some i) (by omega) (by omega)
      · rw [if_neg c, if_neg c, c_X8_heaviestBut_45, nI_1]
        exact ih m (i + 1) x (by omega) (by omega)
theorem m_pkL {s n : Nat} {x2 x3 x4 x5 : Int32} {υ : HS} {f : Nat → Int32} {k97 : Int32 → Int32 → Int32 → Int32 → Int32 → HS → Option (Int32 × HS)} (hs : s < 4) (hn : n ≤ 12) (h8 : gI υ 0 8 = nI n) (hf : ∀ k, k < n → gI υ 13 (40 * s + k) = f k) : ∀ (F m i : Nat) (x : Option Nat), m < F → i + m = n → (∀ k, x = some k → k < n) → c_X9_order_121 k97 F (nI s) x2 x3 x4 x5 (mxA x) (nI i) υ = c_X9_order_182 k97 (nI s) x2 x3 x4 x5 (mxA (pk f x3 m i x)) υ := by
  intro F
  induction F with
  | zero => intro m i x h; omega
  | succ F ih =>
    intro m i x hF hi hx
    rw [c_X9_order_121, h8]
    cases m with
    | zero => rw [if_pos (by rw [nI_leI (by omega) (by omega)]; omega), pk]
    | succ m =>
      have up : ∀ k, (some i : Option Nat) = some k → k < n := fun k z => by cases z; omega
      rw [if_neg (by rw [nI_leI (by omega) (by omega)]; omega), pk]
      by_cases c : ((x3 >>> (nI i &&& 31)) &&& 1) = 0
      · rw [if_pos c, if_pos c]
        cases x with
        | none =>
          rw [if_pos (show mxA none = -1 from rfl), c_X9_order_172, c_X9_order_176, nI_1]
          exact ih m (i + 1) (some i) (by omega) (by omega) up
        | some k =>
          have hk := hx k rfl
          rw [if_neg (show ¬ mxA (some k) = -1 from nI_neg (by omega)), show mxA (some k) = nI k from rfl, show (40 : Int32) = nI 40 from rfl, nI_mul, nI_add, nI_add, if_pos (inb_nI (by omega) (by omega)), if_pos (inb_nI (by omega) (by omega)), ix_nI (by omega), ix_nI (by omega), hf i (by omega), hf k hk, c_X9_order_172, c_X9_order_176, c_X9_order_176, nI_1]
          by_cases c2 : f i ≤ f k
          · rw [if_pos c2, show pkN f i (some k) = k from if_pos c2]
            exact ih m (i + 1) (some k) (by omega) (by omega) hx
          · rw [if_neg c2, show pkN f i (some k) = i from if_neg c2]
            exact ih m (i + 1) (some i) (by omega) (by omega) up
      · rw [if_neg c, if_neg c, c_X9_order_176, nI_1]
        exact ih m (i + 1) x (by omega) (by omega) hx
/-- a box that isn't taken is found while there is one -/
theorem pk_some {f : Nat → Int32} {s : Int32} {n : Nat} (hn : n ≤ 12) : ∀ m i x, i + m = n → (∀ k, x = some k → k < n ∧ bt s k = false) → ((∃ k, x = some k) ∨ ∃ k, i ≤ k ∧ k < n ∧ bt s k = false) → ∃ k, k < n ∧ bt s k = false ∧ pk f s m i x = some k := by
  intro m
  induction m with
  | zero =>
    intro i x hi hx h
    rcases h with ⟨k, rfl⟩ | ⟨k, h1, h2, _⟩
    · exact ⟨k, (hx k rfl).1, (hx k rfl).2, rfl⟩
    · omega
  | succ m ih =>
    intro i x hi hx h
    rw [pk]
    by_cases c : ((s >>> (nI i &&& 31)) &&& 1) = 0
    · rw [if_pos c]
      have hb : bt s i = false := (bit0 (by omega)).mp c
      refine ih (i + 1) _ (by omega) (fun k hk => ?_) (Or.inl ⟨_, rfl⟩)
      have hk := (Option.some.inj hk).symm
      cases x with
      | none => rw [hk]; exact ⟨by show i < n; omega, hb⟩
      | some j =>
        by_cases c2 : f i ≤ f j
        · rw [hk, show pkN f i (some j) = j from if_pos c2]; exact hx j rfl
        · rw [hk, show pkN f i (some j) = i from if_neg c2]; exact ⟨by omega, hb⟩
    · rw [if_neg c]
      refine ih (i + 1) x (by omega) hx ?_
      rcases h with h | ⟨k, h1, h2, h3⟩
      · exact Or.inl h
      · refine Or.inr ⟨k, ?_, h2, h3⟩
        by_cases q : k = i
        · rw [q] at h3
          exact absurd ((bit0 (by omega)).mpr h3) c
        · omega
def bcn (s : Int32) : Nat → Nat
  | 0 => 0
  | m + 1 => bcn s m + if bt s m = true then 1 else 0
theorem bcn_lt {s : Int32} : ∀ n, bcn s n < n → ∃ k, k < n ∧ bt s k = false := by
  intro n
  induction n with
  | zero => intro h; rw [bcn] at h; omega
  | succ n ih =>
    intro h
    rw [bcn] at h
    by_cases c : bt s n = true
    · rw [if_pos c] at h
      obtain ⟨k, h1, h2⟩ := ih (by omega)
      exact ⟨k, by omega, h2⟩
    · exact ⟨n, by omega, Bool.eq_false_iff.mpr c⟩
theorem bcn_up {s : Int32} {j : Nat} (hj : j < 32) (hb : bt s j = false) : ∀ n, n ≤ 32 → bcn (s ||| ((1 : Int32) <<< (nI j &&& 31))) n = bcn s n + if j < n then 1 else 0 := by
  intro n
  induction n with
  | zero => intro _; rfl
  | succ n ih =>
    intro hn
    rw [bcn, bcn, ih (by omega), bit_or hj (by omega)]
    by_cases q : n = j
    · subst q
      rw [hb, show (if n < n then 1 else 0) = 0 from if_neg (by omega), show (if n < n + 1 then 1 else 0) = 1 from if_pos (by omega), decide_eq_true (show n = n from rfl)]
      rfl
    · rw [decide_eq_false q, Bool.or_false]
      by_cases w : j < n
      · rw [if_pos w, show (if j < n + 1 then 1 else 0) = 1 from if_pos (by omega)]; omega
      · rw [if_neg w, show (if j < n + 1 then 1 else 0) = 0 from if_neg (by omega)]; omega
theorem bcn_0 : ∀ n, bcn 0 n = 0 := by
  intro n
  induction n with
  | zero => rfl
  | succ n ih => rw [bcn, ih, bt0]; rfl
theorem m_hwL {s n : Nat} {x2 : Int32} {υ : HS} {f : Nat → Int32} (hs : s < 4) (hn : n ≤ 12) (h8 : gI υ 0 8 = nI n) (hf : ∀ k, k < n → gI υ 13 (40 * s + k) = f k) : ∀ (F m b : Nat), m < F → b + m = n → c_X9_order_50 F (nI s) x2 (nI b) υ = if hwF f m b = true then c_X9_order_89 (nI s) x2 υ else some (-2, υ) := by
  intro F
  induction F with
  | zero => intro m b h; omega
  | succ F ih =>
    intro m b hF hb
    rw [c_X9_order_50, h8]
    cases m with
    | zero => rw [if_pos (by rw [nI_leI (by omega) (by omega)]; omega), hwF, if_pos rfl]
    | succ m =>
      have ein : c_X9_in (f b).toInt64 0 99 υ = some (if f b < 0 then 0 else if 99 < f b then 0 else 1, υ) := in_is (a := 0) (b := 99)
      rw [if_neg (by rw [nI_leI (by omega) (by omega)]; omega), show (40 : Int32) = nI 40 from rfl, nI_mul, nI_add, if_pos (inb_nI (by omega) (by omega)), ix_nI (by omega), hf b (by omega), ein, bi2_s, hwF]
      by_cases c1 : f b < 0
      · rw [if_pos c1, if_pos rfl, if_pos c1, if_neg (by decide)]
      rw [if_neg c1, if_neg c1]
      by_cases c2 : 99 < f b
      · rw [if_pos c2, if_pos rfl, if_pos c2, if_neg (by decide)]
      · rw [if_neg c2, if_neg one_ne, if_neg c2, nI_1]
        exact ih m (b + 1) (by omega) (by omega)
theorem ord_both {j s n lks : Nat} {p2 : Int32} {σ υ : HS} (hs : s < 4) (h0 : 0 < n) (hn : n ≤ 12) (hl : lks ≤ 12) (h2 : gI σ j 2 = nI n) (hk : gI σ 0 1 = nI lks) (h1 : gI σ 1 1 = nI n) (h8 : gI υ 0 8 = nI n) (h9 : gI υ 0 9 = nI lks) (hp : ∀ a, a < n → 0 ≤ gI σ (j + 1) a) (hf : ∀ k, k < n → gI υ 13 (40 * s + k) = gI σ (j + 1) k) : ∀ (d F F2 k : Nat) (st sm : Int32), k + d = min lks n → d + 1 ≤ F → d + 1 ≤ F2 → bcn st n = k → ∃ r, c_X8_order_65 F j p2 st sm (nI k) σ = some (r, σ) ∧ c_X9_order_97 F2 (nI s) p2 st sm (nI k) υ = some (r, υ) := by
  have e212 : ∀ a b : Int32, ∃ r, c_X8_order_108 p2 a b σ = some (r, σ) ∧ c_X9_order_212 p2 a b υ = some (r, υ) := by
    intro a b
    rw [c_X8_order_108, c_X9_order_212]
    by_cases c : p2 = 0
    · rw [if_pos c, if_pos c]; exact ⟨_, rfl, rfl⟩
    · rw [if_neg c, if_neg c]; exact ⟨_, rfl, rfl⟩
  intro d
  induction d with
  | zero =>
    intro F F2 k st sm hk1 hF hF2 hb
    obtain ⟨F, rfl⟩ : ∃ F', F = F' + 1 := ⟨F - 1, by omega⟩
    obtain ⟨F2, rfl⟩ : ∃ F', F2 = F' + 1 := ⟨F2 - 1, by omega⟩
    rw [c_X8_order_65, c_X8_looksOfEach, bi2_s, hk, h1, jxmin_nI (by omega) (by omega), if_pos (by rw [nI_leI (by omega) (by omega)]; omega), c_X9_order_97, h8, h9]
    by_cases c : lks ≤ k
    · rw [if_pos (by rw [nI_leI (by omega) (by omega)]; exact c)]; exact e212 _ _
    · rw [if_neg (by rw [nI_leI (by omega) (by omega)]; exact c), if_pos (by rw [nI_leI (by omega) (by omega)]; omega)]; exact e212 _ _
  | succ d ih =>
    intro F F2 k st sm hk1 hF hF2 hb
    obtain ⟨F, rfl⟩ : ∃ F', F = F' + 1 := ⟨F - 1, by omega⟩
    obtain ⟨F2, rfl⟩ : ∃ F', F2 = F' + 1 := ⟨F2 - 1, by omega⟩
    obtain ⟨b, hbn, hbt, epk⟩ := pk_some (f := gI σ (j + 1)) (s := st) hn n 0 none (by omega) (fun k z => by cases z) (Or.inr (by
      obtain ⟨k', z1, z2⟩ := bcn_lt n (show bcn st n < n by omega)
      exact ⟨k', Nat.zero_le _, z1, z2⟩))
    have ex : c_X8_heaviestBut j st σ = some (nI b, σ) := by
      have := x_pkL (s := st) h2 hn hp FU n 0 none (by rw [FU]; omega) (by omega)
      rw [epk] at this
      exact this
    have em := m_pkL (x2 := p2) (x3 := st) (x4 := sm) (x5 := nI k) (k97 := fun z0 z1 z2 z3 z4 z5 => c_X9_order_97 F2 z0 z1 z2 z3 z4 z5) hs hn h8 hf FU n 0 none (by rw [FU]; omega) (by omega) (fun k z => by cases z)
    rw [epk] at em
    have hb2 : bcn (st ||| ((1 : Int32) <<< (nI b &&& 31))) n = k + 1 := by
      rw [bcn_up (by omega) hbt n (by omega), if_pos hbn, hb]
    obtain ⟨r, e1, e2⟩ := ih F F2 (k + 1) (st ||| ((1 : Int32) <<< (nI b &&& 31))) (sm + gI σ (j + 1) b) (by omega) (by omega) (by omega) hb2
    refine ⟨r, ?_, ?_⟩
    · rw [c_X8_order_65, c_X8_looksOfEach, bi2_s, hk, h1, jxmin_nI (by omega) (by omega), if_neg (by rw [nI_leI (by omega) (by omega)]; omega), ex, bi2_s, x3_at h2 (by omega) hbn, bi2_s, nI_1]
      exact e1
    · rw [c_X9_order_97, h8, h9, if_neg (by rw [nI_leI (by omega) (by omega)]; omega), if_neg (by rw [nI_leI (by omega) (by omega)]; omega)]
      rw [show c_X9_order_121 (fun z0 z1 z2 z3 z4 z5 => c_X9_order_97 F2 z0 z1 z2 z3 z4 z5) FU (nI s) p2 st sm (nI k) (-1) 0 υ = _ from em, c_X9_order_182, show mxA (some b) = nI b from rfl, show (40 : Int32) = nI 40 from rfl, nI_mul, nI_add, if_pos (inb_nI (by omega) (by omega)), ix_nI (by omega), hf b hbn, nI_1]
      exact e2
theorem Op_order {pc : Nat} {σ υ : HS} (p1 p2 : Int32) (h : RelE pc σ υ) : ∃ r σ' υ', c_X8_order p1 p2 σ = some (r, σ') ∧ c_X9_order p1 p2 υ = some (r, υ') ∧ RelE pc σ' υ' := by
  have hh := h
  obtain ⟨n, lks, tc, t, ev, H⟩ := h
  have hS : RSh σ υ := H.2.1.2.2.2.2.2.1
  have bad : ∀ v : Int32, ∃ r σ' υ', some (v, σ) = some (r, σ') ∧ some (v, υ) = some (r, υ') ∧ RelE pc σ' υ' := fun v => ⟨_, σ, υ, rfl, rfl, hh⟩
  obtain ⟨⟨h0, hn⟩, hl, hf, hj, ⟨hs1, hk⟩, hs2, hk2, e⟩ := H.1
  rw [c_X8_order, c_X9_order, m_shAt, bi2_s]
  rcases x_shAt (p := p1) hS with ⟨c, e1⟩ | ⟨s, hs, rfl, e1⟩
  · rw [e1, bi2_s, mo_0, sh_no c, if_pos rfl]; exact bad _
  have is4 := inb_nI hs (show 4 < 2 ^ 31 by omega)
  rw [e1, bi2_s, mo_1, sh_yes hs, if_neg one_ne, in_01, bi2_s]
  rcases two_cases p2 with c | ⟨c, c2⟩ | ⟨c, c2, c3⟩
  · rw [if_pos c, if_pos c, if_pos rfl]; exact bad _
  · rw [if_neg c, if_neg (fun z => le_iff_nlt.mp z c2), if_neg c, if_pos c2, if_pos rfl]; exact bad _
  rw [if_neg c, if_pos (le_iff_nlt.mpr c2), if_neg c, if_neg c2, if_neg one_ne, if_pos is4, if_pos is4, ix_nI (by omega), miss_x, bi2_s]
  rcases (hS s hs).2 with ⟨z1, z2⟩ | ⟨z0, so, sz, z1, z2, z3, z4, z5, z6, z7⟩
  · rw [if_pos z1, if_neg one_ne, z2, if_pos rfl]; exact bad _
  have nz : ¬ gI σ (44 + 2 * s) 1 = -1 := by rw [z3]; exact nI_neg (by omega)
  rw [if_neg nz, if_pos rfl, z0, if_neg one_ne, z4, z6, hs1, hs2]
  by_cases c1 : nI sz = nI n
  · have := nI_inj (by omega) (by omega) c1
    subst this
    have ex : c_X8_holdsWeights (44 + 2 * s) σ = some (tf (hwF (gI σ (44 + 2 * s + 1)) sz 0), σ) := x_hwL z4 hn FU sz 0 (by rw [FU]; omega) (by omega)
    have em := m_hwL (x2 := p2) (f := gI σ (44 + 2 * s + 1)) hs hn hs2 (fun k hk => (z7 k hk).symm) FU sz 0 (by rw [FU]; omega) (by omega)
    rw [if_pos rfl, if_pos rfl, ex, bi2_s, if10, show c_X9_order_50 FU (nI s) p2 0 υ = _ from em]
    by_cases q : hwF (gI σ (44 + 2 * s + 1)) sz 0 = true
    · obtain ⟨r, e2, e3⟩ := ord_both (p2 := p2) hs h0 hn hl.2 z4 hk hs1 hs2 hk2 (hw_ok sz 0 (by omega) (fun a ha => by omega) q) (fun k hk => (z7 k hk).symm) (min lks sz) FU FU 0 0 0 (by omega) (by rw [FU]; omega) (by rw [FU]; omega) (bcn_0 sz)
      rw [if_pos q, if_pos q, show c_X8_order_65 FU (44 + 2 * s) p2 0 0 0 σ = _ from e2, c_X9_order_89, show c_X9_order_97 FU (nI s) p2 0 0 0 υ = _ from e3]
      exact bad _
    · rw [if_neg q, if_neg q]; exact bad _
  · rw [if_neg c1, if_neg c1]; exact bad _
