/-! THE NEXT LAYING BY DIGITS -/
def swf (f : Nat → Int32) (a b : Nat) : Nat → Int32 := fun k => if k = b then f a else if k = a then f b else f k
theorem sA_sA (σ : HS) (i : Nat) (f g : Nat → Int32) : sA (sA σ i f) i g = sA σ i g := by
  refine HS_ext (fun j m => ?_) (fun j m => rfl) (fun j m => rfl)
  rw [gI_sA, gI_sA, gI_sA]
  split <;> rfl
theorem gI_row (σ : HS) (i : Nat) (f : Nat → Int32) : gI (sA σ i f) i = f := by
  funext k
  rw [gI_sA, if_pos rfl]
theorem gI_rowne {σ : HS} {i j : Nat} {f : Nat → Int32} (h : j ≠ i) : gI (sA σ i f) j = gI σ j := by
  funext k
  rw [gI_sA, if_neg h]
theorem sA_self (σ : HS) (i : Nat) : sA σ i (gI σ i) = σ := by
  refine HS_ext (fun j m => ?_) (fun j m => rfl) (fun j m => rfl)
  rw [gI_sA]
  split
  · subst j; rfl
  · rfl
theorem sw_sA (σ : HS) (i a b : Nat) : sI (sI σ i a (gI σ i b)) i b (gI σ i a) = sA σ i (swf (gI σ i) a b) := by
  refine HS_ext (fun j m => ?_) (fun j m => rfl) (fun j m => rfl)
  rw [gI_sI, gI_sI, gI_sA]
  by_cases h : j = i
  · subst h
    rw [if_pos rfl, swf]
    by_cases h1 : m = b <;> by_cases h2 : m = a <;> simp [h1, h2]
  · simp [h]
theorem x_put {i0 n b : Nat} {v : Int32} {σ : HS} (hs : gI σ i0 1 = nI n) (hn : n ≤ 12) (hb : b < n) : c_X0_put i0 (nI b) v σ = some (sI σ (i0 + 1) b v) := by
  rw [c_X0_put, c_X0_has, if_neg (nI_pos (by omega)), hs, if_neg (by rw [nI_leI (by omega) (by omega)]; omega), bi2_s, if_neg (by decide), if_pos (inb_nI (by omega) (by omega)), ix_nI (by omega)]
  rfl
theorem x_change {i0 n a b : Nat} {σ : HS} (hs : gI σ i0 1 = nI n) (hn : n ≤ 12) (ha : a < n) (hb : b < n) : c_X0_change i0 (nI a) (nI b) σ = some (sA σ (i0 + 1) (swf (gI σ (i0 + 1)) a b)) := by
  rw [c_X0_change, x_at hs hn (Or.inr ⟨a, ha, rfl⟩), bi2_s, x_at hs hn (Or.inr ⟨b, hb, rfl⟩), bi2_s, af_nI (by omega), af_nI (by omega), x_put hs hn ha, bi1_s, x_put (by rw [gI_sI, if_neg (by omega)]; exact hs) hn hb, bi1_s, sw_sA]
theorem m_changes {a b : Nat} {σ : HS} (ha : a < 12) (hb : b < 12) : c_X9_changes (nI a) (nI b) σ = some (sA σ 4 (swf (gI σ 4) a b)) := by
  rw [c_X9_changes, if_pos (inb_nI ha (by omega)), if_pos (inb_nI hb (by omega)), if_pos (inb_nI ha (by omega)), ix_nI (by omega), ix_nI (by omega)]
  show (if inb (nI b) 12 = true then some (sI (sI σ 4 a (gI σ 4 b)) 4 b (gI σ 4 a)) else none) = _
  rw [if_pos (inb_nI hb (by omega)), sw_sA]
def pv (f : Nat → Int32) : Nat → Option Nat
  | 0 => none
  | i + 1 => if f i ≤ f (i + 1) then some i else pv f i
def sc (f : Nat → Int32) (a : Nat) : Nat → Nat
  | 0 => 0
  | j + 1 => if j + 1 ≤ a then j + 1 else if f a ≤ f (j + 1) then j + 1 else sc f a j
def rvf : Nat → (Nat → Int32) → Nat → Nat → (Nat → Int32)
  | 0, f, _, _ => f
  | m + 1, f, a, b => if b ≤ a then f else rvf m (swf f a b) (a + 1) (b - 1)
def nxf (n : Nat) (f : Nat → Int32) : Option (Nat → Int32) := match pv f (n - 1) with
  | none => none
  | some a => some (rvf n (swf f a (sc f a (n - 1))) (a + 1) (n - 1))
theorem nI_dec {b : Nat} (h : 0 < b) : nI b + (-1) = nI (b - 1) := by
  have := nI_pred (b - 1)
  rw [show b - 1 + 1 = b by omega] at this
  rw [← this]
  exact (Int32.sub_eq_add_neg (nI b) 1).symm
theorem x_rev {i0 n : Nat} (hn : n ≤ 12) : ∀ (F m a b : Nat) (σ : HS), gI σ i0 1 = nI n → b < n → a ≤ n → b - a ≤ m → m < F → c_X0_advance_86 F i0 (nI b) (nI a) σ = some (sA σ (i0 + 1) (rvf m (gI σ (i0 + 1)) a b)) := by
  intro F
  induction F with
  | zero => intro m a b σ _ _ _ _ h; omega
  | succ F ih =>
    intro m a b σ hs hb ha hm hF
    rw [c_X0_advance_86]
    by_cases c : b ≤ a
    · rw [if_pos ((nI_leI (by omega) (by omega)).mpr c)]
      cases m with
      | zero => rw [rvf, sA_self]
      | succ m => rw [rvf, if_pos c, sA_self]
    · rw [if_neg (fun z => c ((nI_leI (by omega) (by omega)).mp z)), x_change hs hn (by omega) hb, bi1_s, nI_dec (by omega), nI_1]
      cases m with
      | zero => omega
      | succ m =>
        rw [ih m (a + 1) (b - 1) _ (by rw [gI_rowne (by omega)]; exact hs) (by omega) (by omega) (by omega) (by omega), gI_row, sA_sA, rvf, if_neg c]
theorem m_rev {n : Nat} (hn : n ≤ 12) : ∀ (F m a b : Nat) (σ : HS), b < n → a ≤ n → b - a ≤ m → m < F → c_X9_goesOn_86 F (nI a) (nI b) σ = some (1, sA σ 4 (rvf m (gI σ 4) a b)) := by
  intro F
  induction F with
  | zero => intro m a b σ _ _ _ h; omega
  | succ F ih =>
    intro m a b σ hb ha hm hF
    rw [c_X9_goesOn_86]
    by_cases c : b ≤ a
    · rw [if_pos ((nI_leI (by omega) (by omega)).mpr c)]
      cases m with
      | zero => rw [rvf, sA_self]
      | succ m => rw [rvf, if_pos c, sA_self]
    · rw [if_neg (fun z => c ((nI_leI (by omega) (by omega)).mp z)), m_changes (by omega) (by omega), bi1_s, nI_dec (by omega), nI_1]
      cases m with
      | zero => omega
      | succ m =>
        rw [ih m (a + 1) (b - 1) _ (by omega) (by omega) (by omega) (by omega), gI_row, sA_sA, rvf, if_neg c]
theorem sc_lt {f : Nat → Int32} {a : Nat} : ∀ j, sc f a j ≤ j := by
  intro j
  induction j with
  | zero => exact Nat.le_refl _
  | succ j ih => rw [sc]; split <;> (try split) <;> omega
theorem x_sc {i0 n a : Nat} {σ : HS} (hs : gI σ i0 1 = nI n) (hn : n ≤ 12) (ha : a < n) (hf : VL n (gI σ (i0 + 1))) : ∀ (F j : Nat), j < n → a ≤ j → j < F → c_X0_advance_44 F i0 (nI a) (nI j) σ = c_X0_advance_68 i0 (nI a) (nI (sc (gI σ (i0 + 1)) a j)) σ := by
  intro F
  induction F with
  | zero => intro j _ _ h; omega
  | succ F ih =>
    intro j hj haj hF
    rw [c_X0_advance_44]
    by_cases c : j ≤ a
    · have : j = a := by omega
      subst this
      rw [if_pos ((nI_leI (by omega) (by omega)).mpr c)]
      cases j with
      | zero => rfl
      | succ j => rw [sc, if_pos c]
    · rw [if_neg (fun z => c ((nI_leI (by omega) (by omega)).mp z)), x_at hs hn (Or.inr ⟨j, hj, rfl⟩), bi2_s, x_at hs hn (Or.inr ⟨a, ha, rfl⟩), bi2_s, af_nI (by omega), af_nI (by omega)]
      cases j with
      | zero => omega
      | succ j =>
        rw [sc, if_neg c]
        by_cases c2 : gI σ (i0 + 1) a ≤ gI σ (i0 + 1) (j + 1)
        · rw [if_pos c2, if_pos c2]
        · rw [if_neg c2, if_neg c2, nI_dec (by omega)]
          exact ih j (by omega) (by omega) (by omega)
theorem m_sc {n a : Nat} {σ : HS} (hn : n ≤ 12) (ha : a + 1 < n) (hle : gI σ 4 a ≤ gI σ 4 (a + 1)) : ∀ (F j : Nat), j < n → a + 1 ≤ j → j < F → c_X9_goesOn_47 F (nI a) (nI j) σ = c_X9_goesOn_68 (nI a) (nI (sc (gI σ 4) a j)) σ := by
  intro F
  induction F with
  | zero => intro j _ _ h; omega
  | succ F ih =>
    intro j hj haj hF
    rw [c_X9_goesOn_47, if_pos (inb_nI (by omega) (by omega)), if_pos (inb_nI (by omega) (by omega)), ix_nI (by omega), ix_nI (by omega)]
    cases j with
    | zero => omega
    | succ j =>
      rw [sc, if_neg (show ¬ (j + 1 ≤ a) by omega)]
      by_cases c2 : gI σ 4 a ≤ gI σ 4 (j + 1)
      · rw [if_pos c2, if_pos c2]
      · rw [if_neg c2, if_neg c2, nI_dec (by omega)]
        refine ih j (by omega) ?_ (by omega)
        by_cases c3 : a = j
        · subst c3; exact absurd hle c2
        · omega
theorem neg_lt0 : (-1 : Int32) < 0 := by decide
theorem x_advL {i0 n : Nat} {σ : HS} (hs : gI σ i0 1 = nI n) (hn : n ≤ 12) (h0 : 0 < n) (hf : VL n (gI σ (i0 + 1))) : ∀ (F i : Nat), i < n → i < F → c_X0_advance_7 F i0 (nI i + (-1)) σ = (match pv (gI σ (i0 + 1)) i with | none => some σ | some a => c_X0_advance_44 FU i0 (nI a) (nI (n - 1)) σ) := by
  intro F
  induction F with
  | zero => intro i _ h; omega
  | succ F ih =>
    intro i hi hF
    rw [c_X0_advance_7]
    cases i with
    | zero =>
      have e : nI 0 + (-1) = (-1 : Int32) := by rw [nI_0]; decide
      rw [e, if_pos neg_lt0, c_X0_advance_32, if_neg (by decide), pv]
    | succ i =>
      rw [nI_dec (by omega), show i + 1 - 1 = i by omega, if_neg (nI_pos (by omega)), x_at hs hn (Or.inr ⟨i, by omega, rfl⟩), bi2_s, nI_1, x_at hs hn (Or.inr ⟨i + 1, by omega, rfl⟩), bi2_s, af_nI (by omega), af_nI (by omega), pv]
      by_cases c : gI σ (i0 + 1) i ≤ gI σ (i0 + 1) (i + 1)
      · rw [if_pos c, if_pos c, c_X0_advance_32, if_pos (nI_pos' (by omega)), hs]
        show c_X0_advance_44 FU i0 (nI i) (nI n - 1) σ = _
        have := nI_pred (n - 1)
        rw [show n - 1 + 1 = n by omega] at this
        rw [this]
      · rw [if_neg c, if_neg c]
        exact ih i (by omega) (by omega)
theorem pv_lt {f : Nat → Int32} {a : Nat} : ∀ i, pv f i = some a → a < i ∧ f a ≤ f (a + 1) := by
  intro i
  induction i with
  | zero => intro h; cases h
  | succ i ih =>
    intro h
    rw [pv] at h
    split at h
    · cases h; exact ⟨by omega, by assumption⟩
    · have := ih h; exact ⟨by omega, this.2⟩
theorem x_adv {i0 n : Nat} {σ : HS} (hs : gI σ i0 1 = nI n) (hn : n ≤ 12) (h0 : 0 < n) (hf : VL n (gI σ (i0 + 1))) : c_X0_advance i0 σ = some (match nxf n (gI σ (i0 + 1)) with | none => σ | some g => sA σ (i0 + 1) g) := by
  rw [c_X0_advance, hs]
  have e : nI n - 2 = nI (n - 1) + (-1) := by
    have h1 := nI_pred (n - 1)
    rw [show n - 1 + 1 = n by omega] at h1
    rw [← h1]
    have : ∀ x : Int32, x - 2 = x - 1 + (-1) := fun x => by
      rw [← Int32.sub_eq_add_neg, Int32.sub_eq_add_neg, Int32.sub_eq_add_neg, Int32.sub_eq_add_neg, Int32.add_assoc]
      rfl
    exact this _
  rw [e, x_advL hs hn h0 hf FU (n - 1) (by omega) (by rw [FU]; omega), nxf]
  cases hp : pv (gI σ (i0 + 1)) (n - 1) with
  | none => rfl
  | some a =>
    have ha := (pv_lt (n - 1) hp).1
    show c_X0_advance_44 FU i0 (nI a) (nI (n - 1)) σ = some (sA σ (i0 + 1) _)
    have hsc := sc_lt (f := gI σ (i0 + 1)) (a := a) (n - 1)
    rw [x_sc hs hn (by omega) hf FU (n - 1) (by omega) (by omega) (by rw [FU]; omega), c_X0_advance_68, x_change hs hn (by omega) (by omega), bi1_s, gI_rowne (by omega), hs, nI_1]
    have h1 := nI_pred (n - 1)
    rw [show n - 1 + 1 = n by omega] at h1
    rw [h1, x_rev hn FU n (a + 1) (n - 1) _ (by rw [gI_rowne (by omega)]; exact hs) (by omega) (by omega) (by omega) (by rw [FU]; omega), gI_row, sA_sA]
theorem m_advL {n : Nat} {σ : HS} (hs : gI σ 0 8 = nI n) (hn : n ≤ 12) (h0 : 0 < n) : ∀ (F i : Nat), i < n → i < F → c_X9_goesOn_7 F (nI i + (-1)) σ = (match pv (gI σ 4) i with | none => some (0, σ) | some a => c_X9_goesOn_47 FU (nI a) (nI (n - 1)) σ) := by
  intro F
  induction F with
  | zero => intro i _ h; omega
  | succ F ih =>
    intro i hi hF
    rw [c_X9_goesOn_7]
    cases i with
    | zero =>
      have e : nI 0 + (-1) = (-1 : Int32) := by rw [nI_0]; decide
      rw [e, if_pos neg_lt0, c_X9_goesOn_34, if_neg (by decide), pv]
    | succ i =>
      rw [nI_dec (by omega), show i + 1 - 1 = i by omega, if_neg (nI_pos (by omega)), if_pos (inb_nI (by omega) (by omega)), nI_1, if_pos (inb_nI (by omega) (by omega)), ix_nI (by omega), ix_nI (by omega), pv]
      by_cases c : gI σ 4 i ≤ gI σ 4 (i + 1)
      · rw [if_pos c, if_pos c, c_X9_goesOn_34, if_pos (nI_pos' (by omega)), hs]
        show c_X9_goesOn_47 FU (nI i) (nI n - 1) σ = _
        have := nI_pred (n - 1)
        rw [show n - 1 + 1 = n by omega] at this
        rw [this]
      · rw [if_neg c, if_neg c]
        exact ih i (by omega) (by omega)
theorem m_adv {n : Nat} {σ : HS} (hs : gI σ 0 8 = nI n) (hn : n ≤ 12) (h0 : 0 < n) : c_X9_goesOn σ = some (match nxf n (gI σ 4) with | none => (0, σ) | some g => (1, sA σ 4 g)) := by
  rw [c_X9_goesOn, hs]
  have e : nI n - 2 = nI (n - 1) + (-1) := by
    have h1 := nI_pred (n - 1)
    rw [show n - 1 + 1 = n by omega] at h1
    rw [← h1]
    have : ∀ x : Int32, x - 2 = x - 1 + (-1) := fun x => by
      rw [← Int32.sub_eq_add_neg, Int32.sub_eq_add_neg, Int32.sub_eq_add_neg, Int32.sub_eq_add_neg, Int32.add_assoc]
      rfl
    exact this _
  rw [e, m_advL hs hn h0 FU (n - 1) (by omega) (by rw [FU]; omega), nxf]
  cases hp : pv (gI σ 4) (n - 1) with
  | none => rfl
  | some a =>
    have ha := pv_lt (n - 1) hp
    show c_X9_goesOn_47 FU (nI a) (nI (n - 1)) σ = some (1, sA σ 4 _)
    have hsc := sc_lt (f := gI σ 4) (a := a) (n - 1)
    rw [m_sc hn (by omega) ha.2 FU (n - 1) (by omega) (by omega) (by rw [FU]; omega), c_X9_goesOn_68, m_changes (by omega) (by omega), bi1_s, gI_rowne (by omega), hs, nI_1]
    have h1 := nI_pred (n - 1)
    rw [show n - 1 + 1 = n by omega] at h1
    rw [h1, m_rev hn FU n (a + 1) (n - 1) _ (by omega) (by omega) (by omega) (by rw [FU]; omega), gI_row, sA_sA]
