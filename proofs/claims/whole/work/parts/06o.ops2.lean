/-! EMPTY, BOX -/
theorem has_no {p : Int32} {n : Nat} (c : p < 0 ∨ (¬ p < 0 ∧ nI n ≤ p)) : (if p < 0 then (0 : Int32) else if nI n ≤ p then 0 else 1) = 0 := by
  rcases c with c | ⟨c, c2⟩
  · rw [if_pos c]
  · rw [if_neg c, if_pos c2]
theorem has_yes {b n : Nat} (hb : b < n) (hn : n ≤ 12) : (if nI b < 0 then (0 : Int32) else if nI n ≤ nI b then 0 else 1) = 1 := by
  rw [if_neg (nI_pos (by omega)), if_neg (by rw [nI_leI (by omega) (by omega)]; omega)]
def setf (f : Nat → Int32) (b : Nat) (v : Int32) : Nat → Int32 := fun k => if k = b then v else f k
theorem sI_row (σ : HS) (i b : Nat) (v : Int32) : gI (sI σ i b v) i = setf (gI σ i) b v := by
  funext k
  rw [gI_sI, setf]
  by_cases c : k = b
  · rw [if_pos ⟨rfl, c⟩, if_pos c]
  · rw [if_neg (by omega), if_neg c]
/-- `empty` by both -/
theorem op_empty {n lks : Nat} {σ υ : HS} (p1 : Int32) (h : RLy n lks σ υ) : ∃ r σ' υ', c_X8_empty p1 σ = some (r, σ') ∧ c_X9_empty p1 υ = some (r, υ') ∧ RLy n lks σ' υ' ∧ Off SLx σ σ' ∧ Off SLm υ υ' := by
  obtain ⟨⟨h0, hn⟩, hl, hf, hj, ⟨hs, hk⟩, hs2, hk2, e⟩ := h
  have R : RLy n lks σ υ := ⟨⟨h0, hn⟩, hl, hf, hj, ⟨hs, hk⟩, hs2, hk2, e⟩
  have bad : ∀ v : Int32, ∃ r σ' υ', some (v, σ) = some (r, σ') ∧ some (v, υ) = some (r, υ') ∧ RLy n lks σ' υ' ∧ Off SLx σ σ' ∧ Off SLm υ υ' := fun v => ⟨v, σ, υ, rfl, rfl, R, Off.rf, Off.rf⟩
  rw [c_X8_empty, c_X9_empty, x_has hs, m_box hs2 h0 hn, bi2_s, bi2_s]
  rcases box_cases p1 n (by omega) with c | c | ⟨b, hb, rfl⟩
  · rw [has_no (Or.inl c), if_pos rfl, if_pos rfl]; exact bad _
  · rw [has_no (Or.inr c), if_pos rfl, if_pos rfl]; exact bad _
  rw [has_yes hb hn, if_neg one_ne, if_neg one_ne, if_pos (inb_nI (by omega) (by omega)), x_at hs hn (Or.inr ⟨b, hb, rfl⟩), bi2_s, af_nI (by omega), ix_nI (by omega), ← e b hb]
  by_cases c : gI σ 2 b = -1
  · rw [if_pos c, if_pos c]; exact bad _
  rw [if_neg c, if_neg c, if_pos (inb_nI (by omega) (by omega)), if_pos (inb_nI (by omega) (by omega)), x_put hs hn hb, bi1_s, lt_eqq]
  refine ⟨gI σ 2 b, _, _, rfl, rfl, ⟨⟨h0, hn⟩, hl, ?_, ?_, ⟨?_, ?_⟩, ?_, ?_, ?_⟩, Off.sI (Or.inr rfl), Off.sI (Or.inr rfl)⟩
  · rw [sI_row]
    intro k hk3
    rw [setf]
    split
    · exact Or.inl rfl
    · exact hf k hk3
  · rw [sI_row]
    intro x y hx hy q hne
    unfold setf at q hne
    by_cases x1 : x = b
    · rw [if_pos x1] at hne; exact absurd rfl hne
    · rw [if_neg x1] at q hne
      by_cases y1 : y = b
      · rw [if_pos y1] at q; exact absurd q hne
      · rw [if_neg y1] at q
        exact hj x y hx hy q hne
  · rw [gI_sI, if_neg (by omega)]; exact hs
  · rw [gI_sI, if_neg (by omega)]; exact hk
  · rw [gI_sI, if_neg (by omega)]; exact hs2
  · rw [gI_sI, if_neg (by omega)]; exact hk2
  · rw [sI_row, sI_row]
    intro k hk3
    rw [setf, setf, e k hk3]
/-- `box` by both -/
theorem op_box {n lks : Nat} {σ υ : HS} (p1 p2 : Int32) (h : RLy n lks σ υ) : ∃ r, c_X8_box p1 p2 σ = some (r, σ) ∧ c_X9_box p1 p2 υ = some (r, υ) := by
  obtain ⟨⟨h0, hn⟩, hl, hf, hj, ⟨hs, hk⟩, hs2, hk2, e⟩ := h
  have ein : c_X9_in p2.toInt64 0 1 υ = some (if p2 < 0 then 0 else if 1 < p2 then 0 else 1, υ) := in_is (a := 0) (b := 1)
  rw [c_X8_box, c_X9_box, x_has hs, m_box hs2 h0 hn, bi2_s, bi2_s, ein, bi2_s]
  rcases box_cases p1 n (by omega) with c | c | ⟨b, hb, rfl⟩
  · rw [has_no (Or.inl c), if_pos rfl, if_pos rfl]; exact ⟨_, rfl, rfl⟩
  · rw [has_no (Or.inr c), if_pos rfl, if_pos rfl]; exact ⟨_, rfl, rfl⟩
  rw [has_yes hb hn, if_neg one_ne, if_neg one_ne]
  by_cases c : p2 < 0
  · rw [if_pos c, if_pos c, if_pos rfl]; exact ⟨_, rfl, rfl⟩
  rw [if_neg c, if_neg c]
  by_cases c2 : p2 ≤ 1
  · rw [if_pos c2, if_neg (fun z => i_not_le.mpr z c2), if_neg one_ne]
    by_cases c3 : p2 = 0
    · rw [if_pos c3, if_pos c3, if_pos (inb_nI (by omega) (by omega)), x_at hs hn (Or.inr ⟨b, hb, rfl⟩), bi2_s, af_nI (by omega), ix_nI (by omega), ← e b hb]
      exact ⟨_, rfl, rfl⟩
    · rw [if_neg c3, if_neg c3, x_ring hs hn hb hf, m_ring hs2 hn hb (hf.alk e) (hj.alk e), bi2_s, bi2_s, rl_alk hn hb hf e]
      exact ⟨_, rfl, rfl⟩
  · rw [if_neg c2, if_pos (i_not_le.mp c2), if_pos rfl]; exact ⟨_, rfl, rfl⟩
