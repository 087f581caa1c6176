/-- `next` by both -/
theorem op_next {n lks pc : Nat} {σ υ : HS} (p1 p2 p3 p4 : Int32) (h : RLy n lks σ υ) (hP : RPl pc σ υ) : ∃ r, c_X8_next p1 p2 p3 p4 σ = some (r, σ) ∧ c_X9_next p1 p2 p3 p4 υ = some (r, υ) := by
  obtain ⟨⟨h0, hn⟩, hl, hf, hj, ⟨hs, hk⟩, hs2, hk2, e⟩ := h
  obtain ⟨hc, hp, hp2, hpl⟩ := hP
  have bad : ∃ r, some ((-2 : Int32), σ) = some (r, σ) ∧ some ((-2 : Int32), υ) = some (r, υ) := ⟨-2, rfl, rfl⟩
  have ein : c_X9_in p4.toInt64 0 12 υ = some (if p4 < 0 then 0 else if 12 < p4 then 0 else 1, υ) := in_is (a := 0) (b := 12)
  rw [c_X8_next, c_X9_next, m_isPlan hp2 hc, bi2_s]
  rcases x_planAt (p := p1) hp hc (fun k hk3 => (hpl k hk3).1) with ⟨c, e1⟩ | ⟨k, hk3, rfl, e1⟩
  · rw [e1, bi2_s, mo_0, has_no c, if_pos rfl]; exact bad
  have y1 : (if nI k < 0 then (0 : Int32) else if nI pc ≤ nI k then 0 else 1) = 1 := has_yes hk3 (by omega)
  rw [e1, bi2_s, mo_1, y1, if_neg one_ne, x_has hs, bi2_s, m_box hs2 h0 hn, bi2_s]
  rcases box_cases p2 n (by omega) with c | c | ⟨b, hb, rfl⟩
  · rw [has_no (Or.inl c), if_pos rfl, if_pos rfl]; exact bad
  · rw [has_no (Or.inr c), if_pos rfl, if_pos rfl]; exact bad
  obtain ⟨-, q, w, hq, hw, a1, a2, a3, a4⟩ := hpl k hk3
  rw [has_yes hb hn, if_neg one_ne, if_neg one_ne, ein, bi2_s]
  by_cases c : p4 < 0
  · rw [if_pos c, if_pos c, if_pos rfl]; exact bad
  rw [if_neg c, if_neg c]
  by_cases c2 : p4 ≤ 12
  · rw [if_pos c2, if_neg (fun z => i_not_le.mpr z c2), if_neg one_ne]
    by_cases c3 : p4 = 0
    · subst c3
      rw [if_pos rfl, if_pos (by decide), c_X9_next_45, if_pos rfl, if_pos (inb_nI (by omega) (by omega)), if_pos (inb_nI (by omega) (by omega)), ix_nI (by omega), hs, x_first h0 hn hq a1, bi2_s, a2, a3, a4, m_first h0 hn hs2, bi2_s]
      exact ⟨_, rfl, rfl⟩
    · have c4 : ¬ p4 ≤ 0 := by
        intro z
        apply c3
        apply Int32.toInt_inj.mp
        rw [Int32.le_iff_toInt_le] at z
        rw [Int32.lt_iff_toInt_lt] at c
        omega
      rw [if_neg c3, if_neg c4, x_has hs, bi2_s, m_box hs2 h0 hn, bi2_s]
      rcases box_cases p3 n (by omega) with c | c | ⟨d, hd, rfl⟩
      · rw [has_no (Or.inl c), if_pos rfl, if_pos rfl]; exact bad
      · rw [has_no (Or.inr c), if_pos rfl, if_pos rfl]; exact bad
      rw [has_yes hd hn, if_neg one_ne, if_neg one_ne, c_X9_next_45, if_neg c3, if_pos (inb_nI (by omega) (by omega)), if_pos (inb_nI (by omega) (by omega)), ix_nI (by omega), x_at hs hn (Or.inr ⟨d, hd, rfl⟩), bi2_s, af_nI (by omega), hs, x_behind h0 hn hq a1, bi2_s, a2, a3, a4, m_next h0 hn hd hs2, bi2_s, nx_alk hd e]
      exact ⟨_, rfl, rfl⟩
  · rw [if_neg c2, if_pos (i_not_le.mp c2), if_pos rfl]; exact bad
