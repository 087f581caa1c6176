/-! BOXES, LOOKS -/
theorem lt_eqq {α β : Type} (a : α) (f : α → β) : lt a f = f a := rfl
def own (n : Nat) (f : Nat → Int32) (b : Nat) : Nat → Int32 := fun k => if b ≤ k ∧ k < n then nI k else f k
theorem own_step (σ : HS) (i n b : Nat) (hb : b < n) : sA (sI σ i b (nI b)) i (own n (gI (sI σ i b (nI b)) i) (b + 1)) = sA σ i (own n (gI σ i) b) := by
  refine HS_ext (fun j m => ?_) (fun j m => rfl) (fun j m => rfl)
  rw [gI_sA, gI_sA]
  by_cases h : j = i
  · subst h
    rw [if_pos rfl, if_pos rfl, own, own]
    by_cases c : b ≤ m ∧ m < n
    · rw [if_pos c]
      by_cases c2 : m = b
      · subst c2
        rw [if_neg (by omega), gI_sI, if_pos ⟨rfl, rfl⟩]
      · rw [if_pos (by omega)]
    · rw [if_neg c, if_neg (by omega), gI_sI, if_neg (by omega)]
  · rw [if_neg h, if_neg h, gI_sI, if_neg (by omega)]
theorem own_end (σ : HS) (i n b : Nat) (hb : n ≤ b) : sA σ i (own n (gI σ i) b) = σ := by
  have : own n (gI σ i) b = gI σ i := by
    funext k
    rw [own, if_neg (by omega)]
  rw [this, sA_self]
theorem x_ownL {i0 n : Nat} (hn : n ≤ 12) : ∀ (F b : Nat) (σ : HS), gI σ i0 1 = nI n → n - b < F → b ≤ n → c_X0_layOwn_16 F i0 (nI b) σ = some (sA σ (i0 + 1) (own n (gI σ (i0 + 1)) b)) := by
  intro F
  induction F with
  | zero => intro b σ _ h; omega
  | succ F ih =>
    intro b σ hs hF hb
    rw [c_X0_layOwn_16, hs]
    by_cases c : n ≤ b
    · rw [if_pos ((nI_leI (by omega) (by omega)).mpr c), own_end σ _ _ _ c]
    · rw [if_neg (fun z => c ((nI_leI (by omega) (by omega)).mp z)), if_pos (inb_nI (by omega) (by omega)), ix_nI (by omega), nI_1]
      show c_X0_layOwn_16 F i0 (nI (b + 1)) (sI σ (i0 + 1) b (nI b)) = _
      rw [ih (b + 1) _ (by rw [gI_sI, if_neg (by omega)]; exact hs) (by omega) (by omega), own_step σ _ _ _ (by omega)]
theorem x_own {i0 n : Nat} {σ : HS} (h0 : 1 ≤ n) (hn : n ≤ 12) : c_X0_layOwn i0 (nI n) σ = some (sA (sI σ i0 1 (nI n)) (i0 + 1) (own n (gI σ (i0 + 1)) 0)) := by
  rw [c_X0_layOwn]
  have e : jxmax 0 (jxmin (nI n) 12) = nI n := by
    rw [show (12 : Int32) = nI 12 from rfl, jxmin_nI (by omega) (by omega), Nat.min_eq_left hn, ← nI_0, jxmax_nI (by omega) (by omega), Nat.max_eq_right (by omega)]
  rw [e, lt_eqq]
  have g : gI (sI σ i0 1 (nI n)) (i0 + 1) = gI σ (i0 + 1) := by
    funext k
    rw [gI_sI, if_neg (by omega)]
  have := x_ownL (i0 := i0) hn FU 0 (sI σ i0 1 (nI n)) (by rw [gI_sI, if_pos ⟨rfl, rfl⟩]) (by rw [FU]; omega) (by omega)
  rw [g, nI_0] at this
  exact this
theorem m_plainL : ∀ (F b : Nat) (σ : HS), 12 - b < F → b ≤ 12 → c_X9_plainly_2 F (nI b) σ = some (sA σ 4 (own 12 (gI σ 4) b)) := by
  intro F
  induction F with
  | zero => intro b σ h; omega
  | succ F ih =>
    intro b σ hF hb
    rw [c_X9_plainly_2]
    by_cases c : 12 ≤ b
    · rw [if_pos (by rw [show (12 : Int32) = nI 12 from rfl, nI_leI (by omega) (by omega)]; exact c), own_end σ _ _ _ c]
    · rw [if_neg (by rw [show (12 : Int32) = nI 12 from rfl, nI_leI (by omega) (by omega)]; exact c), if_pos (inb_nI (by omega) (by omega)), ix_nI (by omega), nI_1]
      show c_X9_plainly_2 F (nI (b + 1)) (sI σ 4 b (nI b)) = _
      rw [ih (b + 1) _ (by omega) (by omega), own_step σ _ _ _ (by omega)]
theorem m_plain {σ : HS} : c_X9_plainly σ = some (sA σ 4 (own 12 (gI σ 4) 0)) := by
  rw [c_X9_plainly]
  exact m_plainL FU 0 σ (by rw [FU]; omega) (by omega)
theorem own_VL {n : Nat} {f : Nat → Int32} : VL n (own n f 0) := fun b hb => Or.inr ⟨b, hb, by rw [own, if_pos ⟨by omega, hb⟩]⟩
theorem own_VJ {n : Nat} {f : Nat → Int32} (hn : n ≤ 12) : VJ n (own n f 0) := by
  intro a b ha hb e _
  rw [own, own, if_pos ⟨by omega, ha⟩, if_pos ⟨by omega, hb⟩] at e
  exact nI_inj (by omega) (by omega) e
/-- an int from 1 to 12 -/
theorem one12 (p : Int32) : p < 1 ∨ (¬ p < 1 ∧ ¬ p ≤ 12) ∨ ∃ n, 1 ≤ n ∧ n ≤ 12 ∧ p = nI n := by
  by_cases c : p < 1
  · exact Or.inl c
  · have c0 : ¬ p < 0 := by
      intro z
      apply c
      rw [Int32.lt_iff_toInt_lt] at z ⊢
      have h1 : (0 : Int32).toInt = 0 := by decide
      have h2 : (1 : Int32).toInt = 1 := by decide
      omega
    obtain ⟨j, hj, rfl⟩ := nI_of c0
    rw [show (1 : Int32) = nI 1 from rfl, nI_ltI (by omega) (by omega)] at c
    by_cases c2 : j ≤ 12
    · exact Or.inr (Or.inr ⟨j, by omega, c2, rfl⟩)
    · refine Or.inr (Or.inl ⟨?_, ?_⟩)
      · rw [show (1 : Int32) = nI 1 from rfl, nI_ltI (by omega) (by omega)]; exact c
      · rw [show (12 : Int32) = nI 12 from rfl, nI_leI (by omega) (by omega)]; exact c2
theorem in_1_12 {p : Int32} {σ : HS} : c_X9_in p.toInt64 1 12 σ = some (if p < 1 then 0 else if 12 < p then 0 else 1, σ) := in_is (a := 1) (b := 12)
theorem i_not_le {p q : Int32} : ¬ p ≤ q ↔ q < p := by
  rw [Int32.le_iff_toInt_le, Int32.lt_iff_toInt_lt]
  omega
def SBx (i k : Nat) : Prop := (i = 0 ∧ k = 1) ∨ SLx i k
def SBm (i k : Nat) : Prop := (i = 0 ∧ k = 9) ∨ SLm i k
/-- `boxes` by both -/
theorem op_boxes {n lks : Nat} {σ υ : HS} (p1 : Int32) (h : RLy n lks σ υ) : ∃ r σ' υ' n', c_X8_boxes p1 σ = some (r, σ') ∧ c_X9_boxes p1 υ = some (r, υ') ∧ RLy n' lks σ' υ' ∧ Off SLx σ σ' ∧ Off SLm υ υ' := by
  obtain ⟨⟨h0, hn⟩, hl, hf, hj, ⟨hs, hk⟩, hs2, hk2, e⟩ := h
  have R : RLy n lks σ υ := ⟨⟨h0, hn⟩, hl, hf, hj, ⟨hs, hk⟩, hs2, hk2, e⟩
  have bad : ∃ r σ' υ' n', some ((-2 : Int32), σ) = some (r, σ') ∧ some ((-2 : Int32), υ) = some (r, υ') ∧ RLy n' lks σ' υ' ∧ Off SLx σ σ' ∧ Off SLm υ υ' := ⟨-2, σ, υ, n, rfl, rfl, R, Off.rf, Off.rf⟩
  rw [c_X8_boxes, c_X9_boxes, in_1_12, bi2_s]
  rcases one12 p1 with c | ⟨c, c2⟩ | ⟨q, h1, h12, rfl⟩
  · rw [if_pos c, if_pos c, if_pos rfl]; exact bad
  · rw [if_neg c, if_neg c, if_neg c2, if_pos (i_not_le.mp c2), if_pos rfl]; exact bad
  have c : ¬ nI q < 1 := by rw [show (1 : Int32) = nI 1 from rfl, nI_ltI (by omega) (by omega)]; omega
  have c2 : nI q ≤ 12 := by rw [show (12 : Int32) = nI 12 from rfl, nI_leI (by omega) (by omega)]; omega
  rw [if_neg c, if_neg c, if_pos c2, if_neg (fun z => i_not_le.mpr z c2), if_neg one_ne, x_own h1 h12, bi1_s]
  show ∃ r σ' υ' n', some (gI σ 1 1, _) = some (r, σ') ∧ bi1 (c_X9_plainly (sI υ 0 8 (nI q))) (fun s8 => some (gI υ 0 8, s8)) = some (r, υ') ∧ _
  rw [m_plain, bi1_s, hs, hs2]
  have g2 : ∀ f, gI (sA (sI σ 1 1 (nI q)) 2 f) 2 = f := fun f => gI_row _ _ _
  refine ⟨nI n, _, _, q, rfl, rfl, ⟨⟨h1, h12⟩, hl, ?_, ?_, ⟨?_, ?_⟩, ?_, ?_, ?_⟩, (Off.sI (Or.inl ⟨rfl, by omega, by omega⟩)).tr (Off.sA (fun k => Or.inr rfl)), (Off.sI (Or.inl ⟨rfl, Or.inl rfl⟩)).tr (Off.sA (fun k => Or.inr rfl))⟩
  · rw [g2]; exact own_VL
  · rw [g2]; exact own_VJ h12
  · rw [gI_rowne (by omega), gI_sI, if_pos ⟨rfl, rfl⟩]
  · rw [gI_rowne (by omega), gI_sI, if_neg (by omega)]; exact hk
  · rw [gI_rowne (by omega), gI_sI, if_pos ⟨rfl, rfl⟩]
  · rw [gI_rowne (by omega), gI_sI, if_neg (by omega)]; exact hk2
  · rw [g2, gI_row]
    intro k hk
    rw [own, own, if_pos (by omega), if_pos (by omega)]
/-- `looks` by both -/
theorem op_looks {n lks : Nat} {σ υ : HS} (p1 : Int32) (h : RLy n lks σ υ) : ∃ r σ' υ' l', c_X8_looks p1 σ = some (r, σ') ∧ c_X9_looks p1 υ = some (r, υ') ∧ RLy n l' σ' υ' ∧ Off SBx σ σ' ∧ Off SBm υ υ' := by
  obtain ⟨⟨h0, hn⟩, hl, hf, hj, ⟨hs, hk⟩, hs2, hk2, e⟩ := h
  have R : RLy n lks σ υ := ⟨⟨h0, hn⟩, hl, hf, hj, ⟨hs, hk⟩, hs2, hk2, e⟩
  have bad : ∃ r σ' υ' l', some ((-2 : Int32), σ) = some (r, σ') ∧ some ((-2 : Int32), υ) = some (r, υ') ∧ RLy n l' σ' υ' ∧ Off SBx σ σ' ∧ Off SBm υ υ' := ⟨-2, σ, υ, lks, rfl, rfl, R, Off.rf, Off.rf⟩
  rw [c_X8_looks, c_X9_looks, in_1_12, bi2_s]
  rcases one12 p1 with c | ⟨c, c2⟩ | ⟨q, h1, h12, rfl⟩
  · rw [if_pos c, if_pos c, if_pos rfl]; exact bad
  · rw [if_neg c, if_neg c, if_neg c2, if_pos (i_not_le.mp c2), if_pos rfl]; exact bad
  have c : ¬ nI q < 1 := by rw [show (1 : Int32) = nI 1 from rfl, nI_ltI (by omega) (by omega)]; omega
  have c2 : nI q ≤ 12 := by rw [show (12 : Int32) = nI 12 from rfl, nI_leI (by omega) (by omega)]; omega
  rw [if_neg c, if_neg c, if_pos c2, if_neg (fun z => i_not_le.mpr z c2), if_neg one_ne]
  refine ⟨nI lks, sI σ 0 1 (nI q), sI υ 0 9 (nI q), q, by rw [← hk]; rfl, by rw [← hk2]; rfl, ⟨⟨h0, hn⟩, ⟨h1, h12⟩, hf, hj, ⟨?_, ?_⟩, ?_, ?_, e⟩, Off.sI (Or.inl ⟨rfl, rfl⟩), Off.sI (Or.inl ⟨rfl, rfl⟩)⟩
  · rw [gI_sI, if_neg (by omega)]; exact hs
  · rw [gI_sI, if_pos ⟨rfl, rfl⟩]
  · rw [gI_sI, if_neg (by omega)]; exact hs2
  · rw [gI_sI, if_pos ⟨rfl, rfl⟩]
