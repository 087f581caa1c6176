/-! PLANS -/
def RPl (pc : Nat) (σ υ : HS) : Prop := pc ≤ 8 ∧ gI σ 0 8 = nI pc ∧ gI υ 0 26 = nI pc ∧ ∀ k, k < pc → gR σ 7 k = some (76 + 2 * k) ∧ ∃ q w, q ≤ 5 ∧ w ≤ 11 ∧ gI σ (76 + 2 * k) 0 = nI q ∧ gI σ (76 + 2 * k) 1 = nI w ∧ gI υ 5 k = nI q ∧ gI υ 6 k = nI w
theorem m_isPlan {p : Int32} {pc : Nat} {υ : HS} (hp : gI υ 0 26 = nI pc) (hc : pc ≤ 8) : c_X9_isPlan p υ = some (if p < 0 then 0 else if nI pc ≤ p then 0 else 1, υ) := by
  rw [c_X9_isPlan, hp]
  have e : c_X9_in p.toInt64 0 (nI pc - 1).toInt64 υ = some (if p < 0 then 0 else if nI pc - 1 < p then 0 else 1, υ) := in_is (a := 0)
  have key : (nI pc - 1 < p) ↔ nI pc ≤ p ∨ (pc = 0 ∧ ¬ p < 0) := by
    rcases Nat.eq_zero_or_pos pc with c | c
    · subst c
      have h1 : nI 0 - 1 = (-1 : Int32) := by rw [nI_0]; decide
      have h2 : (-1 : Int32).toInt = -1 := by decide
      have h3 : (0 : Int32).toInt = 0 := by decide
      rw [h1, nI_0, Int32.lt_iff_toInt_lt, Int32.le_iff_toInt_le, Int32.lt_iff_toInt_lt, h2, h3]
      omega
    · rw [pred_nI c, le_pred c (by omega)]
      constructor
      · exact Or.inl
      · rintro (h | h)
        · exact h
        · omega
  rw [e, bi2_s]
  by_cases c : p < 0
  · rw [if_pos c, if_pos c]; rfl
  · rw [if_neg c, if_neg c]
    by_cases c2 : nI pc ≤ p
    · rw [if_pos (key.mpr (Or.inl c2)), if_pos c2]; rfl
    · have c3 : ¬ (nI pc - 1 < p) := by
        intro z
        rcases key.mp z with h | ⟨h, h2⟩
        · exact c2 h
        · subst h
          apply c2
          rw [nI_0, Int32.le_iff_toInt_le]
          rw [Int32.lt_iff_toInt_lt] at h2
          omega
      rw [if_neg c3, if_neg c2]; rfl
theorem x_planAt {p : Int32} {pc : Nat} {σ : HS} (hp : gI σ 0 8 = nI pc) (hc : pc ≤ 8) (hr : ∀ k, k < pc → gR σ 7 k = some (76 + 2 * k)) : ((p < 0 ∨ (¬ p < 0 ∧ nI pc ≤ p)) ∧ c_X8_planAt p σ = some (none, σ)) ∨ ∃ k, k < pc ∧ p = nI k ∧ c_X8_planAt p σ = some (some (76 + 2 * k), σ) := by
  rcases box_cases p pc (by omega) with c | c | ⟨k, hk, rfl⟩
  · exact Or.inl ⟨Or.inl c, by rw [c_X8_planAt, if_pos c]⟩
  · exact Or.inl ⟨Or.inr c, by rw [c_X8_planAt, if_neg c.1, hp, if_pos c.2]⟩
  · refine Or.inr ⟨k, hk, rfl, ?_⟩
    rw [c_X8_planAt, if_neg (nI_pos (by omega)), hp, if_neg (by rw [nI_leI (by omega) (by omega)]; omega), if_pos (inb_nI (by omega) (by omega)), ix_nI (by omega), hr k hk]
theorem mo_0 {γ : Type} (a : Option γ) (f : Nat → Option γ) : mo none a f = a := rfl
theorem mo_1 {γ : Type} (j : Nat) (a : Option γ) (f : Nat → Option γ) : mo (some j) a f = f j := rfl
/-- `found` by both -/
theorem op_found {n lks pc : Nat} {σ υ : HS} (p1 p2 : Int32) (h : RLy n lks σ υ) (hP : RPl pc σ υ) : ∃ r υ', c_X8_found p1 p2 σ = some (r, σ) ∧ c_X9_found p1 p2 υ = some (r, υ') ∧ Off (fun i k => i = 0 ∧ k = 27) υ υ' := by
  obtain ⟨⟨h0, hn⟩, hl, hf, hj, ⟨hs, hk⟩, hs2, hk2, e⟩ := h
  obtain ⟨hc, hp, hp2, hpl⟩ := hP
  have bad : ∃ r υ', some ((-2 : Int32), σ) = some (r, σ) ∧ some ((-2 : Int32), υ) = some (r, υ') ∧ Off (fun i k => i = 0 ∧ k = 27) υ υ' := ⟨-2, υ, rfl, rfl, Off.rf⟩
  rw [c_X8_found, c_X9_found, m_isPlan hp2 hc, bi2_s]
  rcases x_planAt (p := p1) hp hc (fun k hk3 => (hpl k hk3).1) with ⟨c, e1⟩ | ⟨k, hk3, rfl, e1⟩
  · rw [e1, bi2_s, mo_0, has_no c, if_pos rfl]; exact bad
  have y1 : (if nI k < 0 then (0 : Int32) else if nI pc ≤ nI k then 0 else 1) = 1 := has_yes hk3 (by omega)
  rw [e1, bi2_s, mo_1, y1, if_neg one_ne, x_has hs, bi2_s, m_box hs2 h0 hn, bi2_s]
  rcases box_cases p2 n (by omega) with c | c | ⟨b, hb, rfl⟩
  · rw [has_no (Or.inl c), if_pos rfl, if_pos rfl]; exact bad
  · rw [has_no (Or.inr c), if_pos rfl, if_pos rfl]; exact bad
  obtain ⟨-, q, w, hq, hw, a1, a2, a3, a4⟩ := hpl k hk3
  rw [has_yes hb hn, if_neg one_ne, if_neg one_ne, c_X8_looksOfEach, bi2_s, hk, hs, jxmin_nI (by omega) (by omega), x_finds hn (by omega) hb hq hw a1 a2 hs hf, bi2_s, if_pos (inb_nI (by omega) (by omega)), if_pos (inb_nI (by omega) (by omega)), ix_nI (by omega), a3, a4, m_finds hn hl.1 hl.2 hb hw hs2 hk2 (hf.alk e), bi2_s]
  have E : lkA (nI q) (nI w) n (gI υ 4) b (min lks n) = lkA (nI q) (nI w) n (gI σ 2) b (min lks n) := (lkA_alk hn hb hw hf e).symm
  rw [E]
  exact ⟨_, _, rfl, rfl, Off.sI ⟨rfl, rfl⟩⟩
