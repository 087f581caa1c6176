/-! LEXING: the tokens of a row of bytes, by both -/
def gB (b : Nat → Nat) (sz p : Nat) : Int32 := if p < sz then nI (b p) else -1
def pB (x : Int32) : Bool := if x = 32 then true else if x = 10 then true else false
def pL (x : Int32) : Bool := if x < 97 then false else if 122 < x then false else true
def pD (x : Int32) : Bool := if x < 48 then false else if 57 < x then false else true
def rn (P : Int32 → Bool) (g : Nat → Int32) : Nat → Nat → Nat
  | 0, p => p
  | m + 1, p => if P (g p) = true then rn P g m (p + 1) else p
theorem rn_ge {P : Int32 → Bool} {g : Nat → Int32} : ∀ m p, p ≤ rn P g m p := by
  intro m
  induction m with
  | zero => intro p; exact Nat.le_refl _
  | succ m ih =>
    intro p
    rw [rn]
    by_cases c : P (g p) = true
    · rw [if_pos c]; exact Nat.le_of_succ_le (ih (p + 1))
    · rw [if_neg c]; exact Nat.le_refl _
theorem rn_sz {P : Int32 → Bool} {g : Nat → Int32} {sz : Nat} (h : ∀ q, sz ≤ q → P (g q) = false) : ∀ m p, p ≤ sz → rn P g m p ≤ sz := by
  intro m
  induction m with
  | zero => intro p hp; exact hp
  | succ m ih =>
    intro p hp
    rw [rn]
    by_cases c : P (g p) = true
    · rw [if_pos c]
      refine ih (p + 1) ?_
      by_cases z : sz ≤ p
      · rw [h p z] at c; cases c
      · omega
    · rw [if_neg c]; exact hp
theorem rn_in {P : Int32 → Bool} {g : Nat → Int32} : ∀ m p k, p ≤ k → k < rn P g m p → P (g k) = true := by
  intro m
  induction m with
  | zero => intro p k h1 h2; rw [rn] at h2; omega
  | succ m ih =>
    intro p k h1 h2
    rw [rn] at h2
    by_cases c : P (g p) = true
    · rw [if_pos c] at h2
      by_cases e : k = p
      · rw [e]; exact c
      · exact ih (p + 1) k (by omega) h2
    · rw [if_neg c] at h2; omega
theorem rn_fuel {P : Int32 → Bool} {g : Nat → Int32} {sz : Nat} (h : ∀ q, sz ≤ q → P (g q) = false) : ∀ m m' p, sz ≤ p + m → sz ≤ p + m' → rn P g m p = rn P g m' p := by
  intro m
  induction m with
  | zero =>
    intro m' p h1 _
    cases m' with
    | zero => rfl
    | succ m' => rw [rn, rn, if_neg (by rw [h p (by omega)]; decide)]
  | succ m ih =>
    intro m' p h1 h2
    cases m' with
    | zero => rw [rn, rn, if_neg (by rw [h p (by omega)]; decide)]
    | succ m' =>
      rw [rn, rn]
      by_cases c : P (g p) = true
      · rw [if_pos c, if_pos c]; exact ih m' (p + 1) (by omega) (by omega)
      · rw [if_neg c, if_neg c]
theorem rn_end {P : Int32 → Bool} {g : Nat → Int32} {sz : Nat} (h : ∀ q, sz ≤ q → P (g q) = false) : ∀ m p, sz ≤ p + m → P (g (rn P g m p)) = false := by
  intro m
  induction m with
  | zero => intro p h1; exact h p (by omega)
  | succ m ih =>
    intro p h1
    rw [rn]
    by_cases c : P (g p) = true
    · rw [if_pos c]; exact ih (p + 1) (by omega)
    · rw [if_neg c]; exact Bool.eq_false_iff.mpr c
theorem gB_out {b : Nat → Nat} {sz q : Nat} (h : sz ≤ q) : gB b sz q = -1 := if_neg (by omega)
theorem pB_out {b : Nat → Nat} {sz : Nat} : ∀ q, sz ≤ q → pB (gB b sz q) = false := fun q h => by rw [gB_out h]; decide
theorem pL_out {b : Nat → Nat} {sz : Nat} : ∀ q, sz ≤ q → pL (gB b sz q) = false := fun q h => by rw [gB_out h]; decide
theorem pD_out {b : Nat → Nat} {sz : Nat} : ∀ q, sz ≤ q → pD (gB b sz q) = false := fun q h => by rw [gB_out h]; decide
/-- what a test of a byte answers -/
def tf (B : Bool) : Int32 := if B = true then 1 else 0
theorem if10 {γ : Type} (B : Bool) (a b : γ) : (if tf B = 0 then a else b) = if B = true then b else a := by
  cases B
  · exact if_pos rfl
  · exact if_neg one_ne
theorem x_isB (x : Int32) (σ : HS) : c_X2_isBlank x σ = some (tf (pB x), σ) := by
  rw [c_X2_isBlank, pB]
  by_cases c : x = 32
  · rw [if_pos c, if_pos c]; rfl
  · rw [if_neg c, if_neg c]
    by_cases c2 : x = 10
    · rw [if_pos c2, if_pos c2]; rfl
    · rw [if_neg c2, if_neg c2]; rfl
theorem x_isL (x : Int32) (σ : HS) : c_X2_isLetter x σ = some (tf (pL x), σ) := by
  rw [c_X2_isLetter, pL]
  by_cases c : x < 97
  · rw [if_pos c, if_pos c]; rfl
  · rw [if_neg c, if_neg c]
    by_cases c2 : 122 < x
    · rw [if_pos c2, if_pos c2]; rfl
    · rw [if_neg c2, if_neg c2]; rfl
theorem m_isL (x : Int32) (σ : HS) : c_X9_in x.toInt64 97 122 σ = some (tf (pL x), σ) := by
  have e : c_X9_in x.toInt64 97 122 σ = some (if x < 97 then 0 else if 122 < x then 0 else 1, σ) := in_is (a := 97) (b := 122)
  rw [e, pL]
  by_cases c : x < 97
  · rw [if_pos c, if_pos c]; rfl
  · rw [if_neg c, if_neg c]
    by_cases c2 : 122 < x
    · rw [if_pos c2, if_pos c2]; rfl
    · rw [if_neg c2, if_neg c2]; rfl
theorem x_isD (x : Int32) (σ : HS) : c_X2_isDigit x σ = some (tf (pD x), σ) := by
  rw [c_X2_isDigit, pD]
  by_cases c : x < 48
  · rw [if_pos c, if_pos c]; rfl
  · rw [if_neg c, if_neg c]
    by_cases c2 : 57 < x
    · rw [if_pos c2, if_pos c2]; rfl
    · rw [if_neg c2, if_neg c2]; rfl
theorem m_isD (x : Int32) (σ : HS) : c_X9_in x.toInt64 48 57 σ = some (tf (pD x), σ) := by
  have e : c_X9_in x.toInt64 48 57 σ = some (if x < 48 then 0 else if 57 < x then 0 else 1, σ) := in_is (a := 48) (b := 57)
  rw [e, pD]
  by_cases c : x < 48
  · rw [if_pos c, if_pos c]; rfl
  · rw [if_neg c, if_neg c]
    by_cases c2 : 57 < x
    · rw [if_pos c2, if_pos c2]; rfl
    · rw [if_neg c2, if_neg c2]; rfl
theorem sI_sI (σ : HS) (i k : Nat) (a c : Int32) : sI (sI σ i k a) i k c = sI σ i k c := by
  refine HS_ext (fun j m => ?_) (fun _ _ => rfl) (fun _ _ => rfl)
  rw [gI_sI, gI_sI, gI_sI]
  by_cases h : j = i ∧ m = k
  · rw [if_pos h, if_pos h]
  · rw [if_neg h, if_neg h, if_neg h]
theorem sI_self {σ : HS} {i k : Nat} {v : Int32} (h : gI σ i k = v) : sI σ i k v = σ := by
  refine HS_ext (fun j m => ?_) (fun _ _ => rfl) (fun _ _ => rfl)
  rw [gI_sI]
  by_cases c : j = i ∧ m = k
  · rw [if_pos c, c.1, c.2, h]
  · rw [if_neg c]
theorem sI_at (σ : HS) (i k : Nat) (v : Int32) : gI (sI σ i k v) i k = v := by rw [gI_sI, if_pos ⟨rfl, rfl⟩]
theorem sI_k {σ : HS} {i k m : Nat} {v : Int32} (h : m ≠ k) : gI (sI σ i k v) i m = gI σ i m := by rw [gI_sI, if_neg (by omega)]
theorem sI_i {σ : HS} {i j k m : Nat} {v : Int32} (h : j ≠ i) : gI (sI σ i k v) j m = gI σ j m := by rw [gI_sI, if_neg (by omega)]
theorem nI_sub {a b : Nat} (h : b ≤ a) : nI a - nI b = nI (a - b) := by
  have : nI a = nI (a - b) + nI b := by rw [nI_add, Nat.sub_add_cancel h]
  rw [this, Int32.add_sub_cancel]
theorem nI_mul (a b : Nat) : nI a * nI b = nI (a * b) := (Int32.ofNat_mul a b).symm
/-- the class's tape -/
def TpX (b : Nat → Nat) (sz : Nat) (σ : HS) : Prop := (sz ≤ 160 ∧ ∀ k, k < sz → b k < 256) ∧ gI σ 12 1 = nI sz ∧ (∀ k, k < sz → gI σ 13 k = nI (b k)) ∧ gR σ 14 0 = some 12
theorem x_tat {b : Nat → Nat} {sz : Nat} {σ : HS} (h : TpX b sz σ) {p : Nat} (hp : p < 2 ^ 31) : c_X5_at 12 (nI p) σ = some (gB b sz p, σ) := by
  obtain ⟨⟨hz, _⟩, hs, hb, _⟩ := h
  rw [c_X5_at, if_neg (nI_pos hp), hs, gB]
  by_cases c : p < sz
  · rw [if_neg (by rw [nI_leI (by omega) hp]; omega), if_pos (inb_nI (by omega) (by omega)), ix_nI hp, if_pos c]
    exact congrArg (fun z => some (z, σ)) (hb p c)
  · rw [if_pos (by rw [nI_leI (by omega) hp]; omega), if_neg c]
theorem TpX.sI {b : Nat → Nat} {sz : Nat} {σ : HS} {k : Nat} {v : Int32} (h : TpX b sz σ) : TpX b sz (sI σ 14 k v) :=
  ⟨h.1, by rw [gI_sI, if_neg (by omega)]; exact h.2.1, fun j hj => by rw [gI_sI, if_neg (by omega)]; exact h.2.2.1 j hj, h.2.2.2⟩
theorem x_blankL {b : Nat → Nat} {sz : Nat} {σ : HS} (h : TpX b sz σ) : ∀ (F m p : Nat), m < F → m ≤ 160 → p + m ≤ 400 → c_X2_take_10 F (nI (160 - m)) (sI σ 14 3 (nI p)) = c_X2_take_50 (sI σ 14 3 (nI (rn pB (gB b sz) m p))) := by
  intro F
  induction F with
  | zero => intro m p h1; omega
  | succ F ih =>
    intro m p hF hm hp
    rw [c_X2_take_10]
    cases m with
    | zero => rw [if_pos (by decide), rn]
    | succ m =>
      rw [if_neg (by rw [show (160 : Int32) = nI 160 from rfl, nI_leI (by omega) (by omega)]; omega)]
      have h' : TpX b sz (sI σ 14 3 (nI p)) := h.sI
      rw [h'.2.2.2, mr_s, sI_at, x_tat h' (by omega), bi2_s, x_isB, bi2_s, if10, rn]
      by_cases c : pB (gB b sz p) = true
      · rw [if_pos c, if_pos c, lt_eqq, sI_at, sI_sI, nI_1, nI_1, show 160 - (m + 1) + 1 = 160 - m by omega]
        exact ih m (p + 1) (by omega) (by omega) (by omega)
      · rw [if_neg c, if_neg c]
/-! words -/
def wmt (g : Nat → Int32) (w s : Nat) : Nat → Nat → Bool
  | 0, _ => true
  | m + 1, x => if sCh w x = g (s + x) then wmt g w s m (x + 1) else false
def wis (g : Nat → Int32) (s e w : Nat) : Bool := if xLen.getD w 0 = e - s then wmt g w s (xLen.getD w 0) 0 else false
theorem wmt_all {g : Nat → Int32} {w s : Nat} : ∀ m x, wmt g w s m x = true → ∀ i, x ≤ i → i < x + m → sCh w i = g (s + i) := by
  intro m
  induction m with
  | zero => intro x _ i h1 h2; omega
  | succ m ih =>
    intro x h i h1 h2
    rw [wmt] at h
    by_cases c : sCh w x = g (s + x)
    · rw [if_pos c] at h
      by_cases e : i = x
      · rw [e]; exact c
      · exact ih (x + 1) h i (by omega) (by omega)
    · rw [if_neg c] at h; cases h
theorem wmt_of {g : Nat → Int32} {w s : Nat} : ∀ m x, (∀ i, x ≤ i → i < x + m → sCh w i = g (s + i)) → wmt g w s m x = true := by
  intro m
  induction m with
  | zero => intro x _; rfl
  | succ m ih =>
    intro x h
    rw [wmt, if_pos (h x (Nat.le_refl _) (by omega))]
    exact ih (x + 1) fun i h1 h2 => h i (by omega) (by omega)
theorem xL_le {w : Nat} (h : w < 12) : xLen.getD w 0 ≤ 7 := (by decide : ∀ w, w < 12 → xLen.getD w 0 ≤ 7) w h
theorem x_isWordL {b : Nat → Nat} {sz s w : Nat} {σ : HS} (h : TpX b sz σ) (hw : w < 12) (hs : gI σ 14 3 = nI s) (hs2 : s ≤ 400) : ∀ (F m x : Nat), m < F → x + m = xLen.getD w 0 → c_X2_isWord_20 F w (nI x) σ = some (tf (wmt (gB b sz) w s m x), σ) := by
  have hl := xL_le hw
  intro F
  induction F with
  | zero => intro m x h1; omega
  | succ F ih =>
    intro m x hF hx
    rw [c_X2_isWord_20, sLn]
    cases m with
    | zero => rw [if_pos (by rw [nI_leI (by omega) (by omega)]; omega)]; rfl
    | succ m =>
      rw [if_neg (by rw [nI_leI (by omega) (by omega)]; omega), if_pos (show sIn w (nI x) = true from inb_nI (by omega) (by omega)), h.2.2.2, mr_s, hs, nI_add, x_tat h (by omega), bi2_s, ix_nI (by omega), wmt]
      by_cases c : sCh w x = gB b sz (s + x)
      · rw [if_pos c, if_pos c, nI_1]; exact ih m (x + 1) (by omega) (by omega)
      · rw [if_neg c, if_neg c]; rfl
theorem x_isWord {b : Nat → Nat} {sz s e w : Nat} {σ : HS} (h : TpX b sz σ) (hw : w < 12) (hs : gI σ 14 3 = nI s) (he : gI σ 14 4 = nI e) (hs2 : s ≤ e) (he2 : e ≤ 400) : c_X2_isWord w σ = some (tf (wis (gB b sz) s e w), σ) := by
  have hl := xL_le hw
  rw [c_X2_isWord, hs, he, nI_sub hs2, sLn, wis]
  by_cases c : xLen.getD w 0 = e - s
  · rw [if_pos ((nI_eq (by omega) (by omega)).mpr c), if_pos c]
    exact x_isWordL h hw hs (by omega) FU _ 0 (by rw [FU]; omega) (by omega)
  · rw [if_neg (fun z => c ((nI_eq (by omega) (by omega)).mp z)), if_neg c]; rfl
def wcd (g : Nat → Int32) (s e : Nat) : Nat := if wis g s e 0 = true then 10000 else if wis g s e 1 = true then 10001 else if wis g s e 2 = true then 10002 else if wis g s e 3 = true then 10003 else if wis g s e 4 = true then 10004 else if wis g s e 5 = true then 10005 else if wis g s e 6 = true then 10006 else if wis g s e 7 = true then 10007 else if wis g s e 8 = true then 10008 else if wis g s e 9 = true then 10009 else if wis g s e 10 = true then 10010 else if wis g s e 11 = true then 10011 else 10022
theorem x_word42 {b : Nat → Nat} {sz s e : Nat} {σ : HS} (h : TpX b sz σ) (hs : gI σ 14 3 = nI s) (he : gI σ 14 4 = nI e) (hs2 : s ≤ e) (he2 : e ≤ 400) : c_X2_wordToken_42 σ = some (nI (wcd (gB b sz) s e), σ) := by
  have W : ∀ w, w < 12 → c_X2_isWord w σ = some (tf (wis (gB b sz) s e w), σ) := fun w hw => x_isWord h hw hs he hs2 he2
  rw [c_X2_wordToken_42, wcd]
  rw [W 0 (by omega), bi2_s, if10]
  by_cases c0 : wis (gB b sz) s e 0 = true
  · rw [if_pos c0, if_pos c0]; rfl
  rw [if_neg c0, if_neg c0]
  rw [W 1 (by omega), bi2_s, if10]
  by_cases c1 : wis (gB b sz) s e 1 = true
  · rw [if_pos c1, if_pos c1]; rfl
  rw [if_neg c1, if_neg c1]
  rw [W 2 (by omega), bi2_s, if10]
  by_cases c2 : wis (gB b sz) s e 2 = true
  · rw [if_pos c2, if_pos c2]; rfl
  rw [if_neg c2, if_neg c2]
  rw [W 3 (by omega), bi2_s, if10]
  by_cases c3 : wis (gB b sz) s e 3 = true
  · rw [if_pos c3, if_pos c3]; rfl
  rw [if_neg c3, if_neg c3]
  rw [W 4 (by omega), bi2_s, if10]
  by_cases c4 : wis (gB b sz) s e 4 = true
  · rw [if_pos c4, if_pos c4]; rfl
  rw [if_neg c4, if_neg c4]
  rw [W 5 (by omega), bi2_s, if10]
  by_cases c5 : wis (gB b sz) s e 5 = true
  · rw [if_pos c5, if_pos c5]; rfl
  rw [if_neg c5, if_neg c5]
  rw [W 6 (by omega), bi2_s, if10]
  by_cases c6 : wis (gB b sz) s e 6 = true
  · rw [if_pos c6, if_pos c6]; rfl
  rw [if_neg c6, if_neg c6]
  rw [W 7 (by omega), bi2_s, if10]
  by_cases c7 : wis (gB b sz) s e 7 = true
  · rw [if_pos c7, if_pos c7]; rfl
  rw [if_neg c7, if_neg c7]
  rw [W 8 (by omega), bi2_s, if10]
  by_cases c8 : wis (gB b sz) s e 8 = true
  · rw [if_pos c8, if_pos c8]; rfl
  rw [if_neg c8, if_neg c8]
  rw [W 9 (by omega), bi2_s, if10]
  by_cases c9 : wis (gB b sz) s e 9 = true
  · rw [if_pos c9, if_pos c9]; rfl
  rw [if_neg c9, if_neg c9]
  rw [W 10 (by omega), bi2_s, if10]
  by_cases c10 : wis (gB b sz) s e 10 = true
  · rw [if_pos c10, if_pos c10]; rfl
  rw [if_neg c10, if_neg c10]
  rw [W 11 (by omega), bi2_s, if10]
  by_cases c11 : wis (gB b sz) s e 11 = true
  · rw [if_pos c11, if_pos c11]; rfl
  rw [if_neg c11, if_neg c11]
  rfl
theorem wcd_cases (g : Nat → Int32) (s e : Nat) : (∃ w, w < 12 ∧ wcd g s e = 10000 + w ∧ wis g s e w = true) ∨ (wcd g s e = 10022 ∧ ∀ w, w < 12 → wis g s e w = false) := by
  rw [wcd]
  by_cases c0 : wis g s e 0 = true
  · exact Or.inl ⟨0, by omega, by rw [if_pos c0], c0⟩
  rw [if_neg c0]
  by_cases c1 : wis g s e 1 = true
  · exact Or.inl ⟨1, by omega, by rw [if_pos c1], c1⟩
  rw [if_neg c1]
  by_cases c2 : wis g s e 2 = true
  · exact Or.inl ⟨2, by omega, by rw [if_pos c2], c2⟩
  rw [if_neg c2]
  by_cases c3 : wis g s e 3 = true
  · exact Or.inl ⟨3, by omega, by rw [if_pos c3], c3⟩
  rw [if_neg c3]
  by_cases c4 : wis g s e 4 = true
  · exact Or.inl ⟨4, by omega, by rw [if_pos c4], c4⟩
  rw [if_neg c4]
  by_cases c5 : wis g s e 5 = true
  · exact Or.inl ⟨5, by omega, by rw [if_pos c5], c5⟩
  rw [if_neg c5]
  by_cases c6 : wis g s e 6 = true
  · exact Or.inl ⟨6, by omega, by rw [if_pos c6], c6⟩
  rw [if_neg c6]
  by_cases c7 : wis g s e 7 = true
  · exact Or.inl ⟨7, by omega, by rw [if_pos c7], c7⟩
  rw [if_neg c7]
  by_cases c8 : wis g s e 8 = true
  · exact Or.inl ⟨8, by omega, by rw [if_pos c8], c8⟩
  rw [if_neg c8]
  by_cases c9 : wis g s e 9 = true
  · exact Or.inl ⟨9, by omega, by rw [if_pos c9], c9⟩
  rw [if_neg c9]
  by_cases c10 : wis g s e 10 = true
  · exact Or.inl ⟨10, by omega, by rw [if_pos c10], c10⟩
  rw [if_neg c10]
  by_cases c11 : wis g s e 11 = true
  · exact Or.inl ⟨11, by omega, by rw [if_pos c11], c11⟩
  rw [if_neg c11]
  refine Or.inr ⟨rfl, fun w hw => ?_⟩
  have : w = 0 ∨ w = 1 ∨ w = 2 ∨ w = 3 ∨ w = 4 ∨ w = 5 ∨ w = 6 ∨ w = 7 ∨ w = 8 ∨ w = 9 ∨ w = 10 ∨ w = 11 := by omega
  rcases this with rfl | rfl | rfl | rfl | rfl | rfl | rfl | rfl | rfl | rfl | rfl | rfl
  · exact Bool.eq_false_iff.mpr c0
  · exact Bool.eq_false_iff.mpr c1
  · exact Bool.eq_false_iff.mpr c2
  · exact Bool.eq_false_iff.mpr c3
  · exact Bool.eq_false_iff.mpr c4
  · exact Bool.eq_false_iff.mpr c5
  · exact Bool.eq_false_iff.mpr c6
  · exact Bool.eq_false_iff.mpr c7
  · exact Bool.eq_false_iff.mpr c8
  · exact Bool.eq_false_iff.mpr c9
  · exact Bool.eq_false_iff.mpr c10
  · exact Bool.eq_false_iff.mpr c11
theorem x_wordL {b : Nat → Nat} {sz s : Nat} {σ : HS} (h : TpX b sz σ) (hs : gI σ 14 3 = nI s) : ∀ (F m p : Nat), m < F → m ≤ 160 → s ≤ p → p + m ≤ 400 → c_X2_wordToken_2 F (nI (160 - m)) (sI σ 14 4 (nI p)) = some (nI (wcd (gB b sz) s (rn pL (gB b sz) m p)), sI σ 14 4 (nI (rn pL (gB b sz) m p))) := by
  intro F
  induction F with
  | zero => intro m p h1; omega
  | succ F ih =>
    intro m p hF hm hsp hp
    rw [c_X2_wordToken_2]
    have h' : TpX b sz (sI σ 14 4 (nI p)) := h.sI
    have W := x_word42 h' (by rw [sI_k (by omega)]; exact hs) (sI_at _ _ _ _) hsp (by omega)
    cases m with
    | zero => rw [if_pos (by decide), rn]; exact W
    | succ m =>
      rw [if_neg (by rw [show (160 : Int32) = nI 160 from rfl, nI_leI (by omega) (by omega)]; omega)]
      rw [h'.2.2.2, mr_s, sI_at, x_tat h' (by omega), bi2_s, x_isL, bi2_s, if10, rn]
      by_cases c : pL (gB b sz p) = true
      · rw [if_pos c, if_pos c, lt_eqq, sI_at, sI_sI, nI_1, nI_1, show 160 - (m + 1) + 1 = 160 - m by omega]
        exact ih m (p + 1) (by omega) (by omega) (by omega) (by omega)
      · rw [if_neg c, if_neg c]; exact W
/-! numbers -/
def nvN (g : Nat → Int32) (s : Nat) : Nat → Nat
  | 0 => 0
  | k + 1 => 10 * nvN g s k + (ix (g (s + k)) - 48)
def ncd (g : Nat → Int32) (s e : Nat) : Nat := if e - s ≤ 4 then nvN g s (e - s) else 10022
theorem gB_D {b : Nat → Nat} {sz p : Nat} (hb : ∀ k, k < sz → b k < 256) (h : pD (gB b sz p) = true) : ∃ d, d ≤ 9 ∧ gB b sz p = nI (48 + d) := by
  by_cases c : p < sz
  · have hb := hb p c
    rw [gB, if_pos c] at h ⊢
    rw [pD] at h
    by_cases c1 : nI (b p) < 48
    · rw [if_pos c1] at h; cases h
    · rw [if_neg c1] at h
      by_cases c2 : 57 < nI (b p)
      · rw [if_pos c2] at h; cases h
      · rw [show (48 : Int32) = nI 48 from rfl, nI_ltI (by omega) (by omega)] at c1
        rw [show (57 : Int32) = nI 57 from rfl, nI_ltI (by omega) (by omega)] at c2
        exact ⟨b p - 48, by omega, congrArg nI (by omega)⟩
  · rw [pD_out p (by omega)] at h; cases h
theorem gB_L {b : Nat → Nat} {sz p : Nat} (hb : ∀ k, k < sz → b k < 256) (h : pL (gB b sz p) = true) : ∃ d, 1 ≤ d ∧ d ≤ 26 ∧ gB b sz p = nI (96 + d) := by
  by_cases c : p < sz
  · have hb := hb p c
    rw [gB, if_pos c] at h ⊢
    rw [pL] at h
    by_cases c1 : nI (b p) < 97
    · rw [if_pos c1] at h; cases h
    · rw [if_neg c1] at h
      by_cases c2 : 122 < nI (b p)
      · rw [if_pos c2] at h; cases h
      · rw [show (97 : Int32) = nI 97 from rfl, nI_ltI (by omega) (by omega)] at c1
        rw [show (122 : Int32) = nI 122 from rfl, nI_ltI (by omega) (by omega)] at c2
        exact ⟨b p - 96, by omega, by omega, congrArg nI (by omega)⟩
  · rw [pL_out p (by omega)] at h; cases h
theorem x_num64 {s e : Nat} {x : Int32} {σ : HS} (hs : gI σ 14 3 = nI s) (he : gI σ 14 4 = nI e) (hs2 : s ≤ e) (he2 : e ≤ 400) : c_X2_numberToken_64 x σ = some (if e - s ≤ 4 then x else 10022, σ) := by
  rw [c_X2_numberToken_64, hs, he, nI_sub hs2, show (4 : Int32) = nI 4 from rfl]
  by_cases c : e - s ≤ 4
  · rw [if_pos ((nI_leI (by omega) (by omega)).mpr c), if_pos c]
  · rw [if_neg (fun z => c ((nI_leI (by omega) (by omega)).mp z)), if_neg c]
theorem x_numL {b : Nat → Nat} {sz s : Nat} {σ : HS} (h : TpX b sz σ) (hs : gI σ 14 3 = nI s) : ∀ (F m k : Nat), m < F → m ≤ 160 → s + k + m ≤ 400 → c_X2_numberToken_4 F (nI (nvN (gB b sz) s k)) (nI (160 - m)) (sI σ 14 4 (nI (s + k))) = some (nI (ncd (gB b sz) s (rn pD (gB b sz) m (s + k))), sI σ 14 4 (nI (rn pD (gB b sz) m (s + k)))) := by
  intro F
  induction F with
  | zero => intro m p h1; omega
  | succ F ih =>
    intro m k hF hm hp
    rw [c_X2_numberToken_4]
    have h' : TpX b sz (sI σ 14 4 (nI (s + k))) := h.sI
    have W : c_X2_numberToken_64 (nI (nvN (gB b sz) s k)) (sI σ 14 4 (nI (s + k))) = some (nI (ncd (gB b sz) s (s + k)), sI σ 14 4 (nI (s + k))) := by
      rw [x_num64 (by rw [sI_k (by omega)]; exact hs) (sI_at _ _ _ _) (by omega) (by omega), ncd, show s + k - s = k by omega]
      by_cases c : k ≤ 4
      · rw [if_pos c, if_pos c]
      · rw [if_neg c, if_neg c]; rfl
    cases m with
    | zero => rw [if_pos (by decide), rn]; exact W
    | succ m =>
      rw [if_neg (by rw [show (160 : Int32) = nI 160 from rfl, nI_leI (by omega) (by omega)]; omega)]
      rw [h'.2.2.2, mr_s, sI_at, x_tat h' (by omega), bi2_s, x_isD, bi2_s, if10, rn]
      by_cases c : pD (gB b sz (s + k)) = true
      · obtain ⟨d, hd, e⟩ := gB_D h.1.2 c
        rw [if_pos c, if_pos c, h'.2.2.2, mr_s, sI_at, x_tat h' (by omega), bi2_s, lt_eqq, sI_at, sI_sI, nI_1, nI_1, show 160 - (m + 1) + 1 = 160 - m by omega]
        have e2 : 10 * nI (nvN (gB b sz) s k) + gB b sz (s + k) - 48 = nI (nvN (gB b sz) s (k + 1)) := by
          rw [nvN, e, ix_nI (by omega), show (10 : Int32) = nI 10 from rfl, nI_mul, nI_add, show (48 : Int32) = nI 48 from rfl, nI_sub (by omega)]
          exact congrArg nI (by omega)
        rw [e2]
        exact ih m (k + 1) (by omega) (by omega) (by omega)
      · rw [if_neg c, if_neg c]; exact W
def sgc (x : Int32) : Nat := if x = 40 then 10012 else if x = 41 then 10013 else if x = 42 then 10017 else if x = 43 then 10015 else if x = 45 then 10016 else if x = 59 then 10014 else if x = 60 then 10018 else if x = 61 then 10019 else 10022
theorem x_sign (x : Int32) (σ : HS) : c_X2_signToken x σ = some (nI (sgc x), σ) := by
  rw [c_X2_signToken, sgc]
  by_cases c40 : x = 40
  · rw [if_pos c40, if_pos c40]; rfl
  rw [if_neg c40, if_neg c40]
  by_cases c41 : x = 41
  · rw [if_pos c41, if_pos c41]; rfl
  rw [if_neg c41, if_neg c41]
  by_cases c42 : x = 42
  · rw [if_pos c42, if_pos c42]; rfl
  rw [if_neg c42, if_neg c42]
  by_cases c43 : x = 43
  · rw [if_pos c43, if_pos c43]; rfl
  rw [if_neg c43, if_neg c43]
  by_cases c45 : x = 45
  · rw [if_pos c45, if_pos c45]; rfl
  rw [if_neg c45, if_neg c45]
  by_cases c59 : x = 59
  · rw [if_pos c59, if_pos c59]; rfl
  rw [if_neg c59, if_neg c59]
  by_cases c60 : x = 60
  · rw [if_pos c60, if_pos c60]; rfl
  rw [if_neg c60, if_neg c60]
  by_cases c61 : x = 61
  · rw [if_pos c61, if_pos c61]; rfl
  rw [if_neg c61, if_neg c61]
  rfl
/-! tokens: where one begins, ends, what it is -/
def st (g : Nat → Int32) (p : Nat) : Nat := rn pB g 160 p
def enS (g : Nat → Int32) (s : Nat) : Nat := if g s = -1 then s else if pL (g s) = true then rn pL g 160 s else if pD (g s) = true then rn pD g 160 s else s + 1
def cdS (g : Nat → Int32) (s : Nat) : Nat := if g s = -1 then 10021 else if pL (g s) = true then wcd g s (rn pL g 160 s) else if pD (g s) = true then ncd g s (rn pD g 160 s) else sgc (g s)
def en (g : Nat → Int32) (p : Nat) : Nat := enS g (st g p)
def cd (g : Nat → Int32) (p : Nat) : Nat := cdS g (st g p)
theorem u_324 (σ : HS) (i : Nat) (a c d : Int32) : sI (sI (sI σ i 3 a) i 4 c) i 2 d = t3 σ i 2 d a c := by
  refine HS_ext (fun j m => ?_) (fun _ _ => rfl) (fun _ _ => rfl)
  rw [gI_t3, gI_sI, gI_sI, gI_sI]
  repeat' split
  all_goals first | rfl | omega
theorem x_take50 {b : Nat → Nat} {sz s : Nat} {σ : HS} (h : TpX b sz σ) (hs : gI σ 14 3 = nI s) (hsz : s ≤ sz) : c_X2_take_50 σ = some (sI (sI σ 14 4 (nI (enS (gB b sz) s))) 14 2 (nI (cdS (gB b sz) s))) := by
  have hz := h.1.1
  have h' : ∀ v, TpX b sz (sI σ 14 4 v) := fun v => h.sI
  have h3 : ∀ v, gI (sI σ 14 4 v) 14 3 = nI s := fun v => by rw [sI_k (by omega)]; exact hs
  rw [c_X2_take_50, lt_eqq, hs, (h' _).2.2.2, mr_s, h3, x_tat (h' _) (by omega), bi2_s, enS, cdS]
  by_cases c : gB b sz s = -1
  · rw [if_pos c, if_pos c, if_pos c]; rfl
  rw [if_neg c, if_neg c, if_neg c, x_isL, bi2_s, if10]
  by_cases c2 : pL (gB b sz s) = true
  · rw [if_pos c2, if_pos c2, if_pos c2]
    have W := x_wordL h hs FU 160 s (by rw [FU]; omega) (by omega) (by omega) (by omega)
    rw [c_X2_wordToken, show (0 : Int32) = nI (160 - 160) from rfl, W, bi2_s]; rfl
  rw [if_neg c2, if_neg c2, if_neg c2, x_isD, bi2_s, if10]
  by_cases c3 : pD (gB b sz s) = true
  · rw [if_pos c3, if_pos c3, if_pos c3]
    have W := x_numL h hs FU 160 0 (by rw [FU]; omega) (by omega) (by omega)
    rw [Nat.add_zero] at W
    rw [c_X2_numberToken, show c_X2_numberToken_4 FU 0 0 (sI σ 14 4 (nI s)) = _ from W, bi2_s]; rfl
  · rw [if_neg c3, if_neg c3, if_neg c3, lt_eqq, h3, nI_1, sI_sI, x_sign, bi2_s]; rfl
theorem st_le {b : Nat → Nat} {sz p : Nat} (hp : p ≤ sz) : st (gB b sz) p ≤ sz := rn_sz pB_out 160 p hp
theorem st_ge {b : Nat → Nat} {sz p : Nat} : p ≤ st (gB b sz) p := rn_ge 160 p
theorem x_take {b : Nat → Nat} {sz p : Nat} {σ : HS} (h : TpX b sz σ) (hp : gI σ 14 4 = nI p) (hsz : p ≤ sz) : c_X2_take σ = some (t3 σ 14 2 (nI (cd (gB b sz) p)) (nI (st (gB b sz) p)) (nI (en (gB b sz) p))) := by
  have hz := h.1.1
  rw [c_X2_take, lt_eqq, hp]
  have W : c_X2_take_10 FU 0 (sI σ 14 3 (nI p)) = c_X2_take_50 (sI σ 14 3 (nI (st (gB b sz) p))) := x_blankL h FU 160 p (by rw [FU]; omega) (by omega) (by omega)
  rw [W, x_take50 h.sI (sI_at _ _ _ _) (st_le hsz)]
  exact congrArg some (u_324 σ 14 _ _ _)
