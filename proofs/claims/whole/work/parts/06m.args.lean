/-! WHAT IS ASKED -/
theorem one_ne : ¬ (1 : Int32) = 0 := by decide
theorem j_lt (p q : Int32) : p.toInt64 < q.toInt64 ↔ p < q := by
  rw [Int64.lt_iff_toInt_lt, Int32.lt_iff_toInt_lt, Int32.toInt_toInt64, Int32.toInt_toInt64]
/-- the reference's `in`, of ints -/
theorem in_is {p a b : Int32} {σ : HS} : c_X9_in p.toInt64 a.toInt64 b.toInt64 σ = some (if p < a then 0 else if b < p then 0 else 1, σ) := by
  rw [c_X9_in]
  by_cases c : p < a
  · rw [if_pos ((lg_cmp_lt _ _).mpr ((j_lt p a).mpr c)), if_pos c]
  · rw [if_neg (fun z => c ((j_lt p a).mp ((lg_cmp_lt _ _).mp z))), if_neg c]
    by_cases c2 : b < p
    · rw [if_pos ((lg_cmp_gt _ _).mpr ((j_lt b p).mpr c2)), if_pos c2]
    · rw [if_neg (fun z => c2 ((j_lt b p).mp ((lg_cmp_gt _ _).mp z))), if_neg c2]
theorem box_cases (p : Int32) (n : Nat) (hn : n < 2 ^ 31) : p < 0 ∨ (¬ p < 0 ∧ nI n ≤ p) ∨ ∃ b, b < n ∧ p = nI b := by
  by_cases c : p < 0
  · exact Or.inl c
  · obtain ⟨j, hj, rfl⟩ := nI_of c
    by_cases c2 : n ≤ j
    · exact Or.inr (Or.inl ⟨c, (nI_leI hn hj).mpr c2⟩)
    · exact Or.inr (Or.inr ⟨j, by omega, rfl⟩)
theorem pred_nI {n : Nat} (h0 : 0 < n) : nI n - 1 = nI (n - 1) := by
  have h1 := nI_pred (n - 1)
  rw [show n - 1 + 1 = n by omega] at h1
  exact h1
theorem le_pred {p : Int32} {n : Nat} (h0 : 0 < n) (hn : n < 2 ^ 31) : nI (n - 1) < p ↔ nI n ≤ p := by
  rw [Int32.lt_iff_toInt_lt, Int32.le_iff_toInt_le, nI_toInt (by omega), nI_toInt hn]
  omega
theorem m_box {p : Int32} {n : Nat} {σ : HS} (hs : gI σ 0 8 = nI n) (h0 : 0 < n) (hn : n ≤ 12) : c_X9_isBox p σ = some (if p < 0 then 0 else if nI n ≤ p then 0 else 1, σ) := by
  rw [c_X9_isBox, hs, pred_nI h0]
  have e : c_X9_in p.toInt64 0 (nI (n - 1)).toInt64 σ = some (if p < 0 then 0 else if nI (n - 1) < p then 0 else 1, σ) := in_is (a := 0)
  rw [e, bi2_s]
  by_cases c : p < 0
  · rw [if_pos c, if_pos c]; rfl
  · rw [if_neg c, if_neg c]
    by_cases c2 : nI n ≤ p
    · rw [if_pos ((le_pred h0 (by omega)).mpr c2), if_pos c2]; rfl
    · rw [if_neg (fun z => c2 ((le_pred h0 (by omega)).mp z)), if_neg c2]; rfl
theorem x_has {i0 n : Nat} {p : Int32} {σ : HS} (hs : gI σ i0 1 = nI n) : c_X0_has i0 p σ = some (if p < 0 then 0 else if nI n ≤ p then 0 else 1, σ) := by
  rw [c_X0_has, hs]
  by_cases c : p < 0
  · rw [if_pos c, if_pos c]
  · rw [if_neg c, if_neg c]
    by_cases c2 : nI n ≤ p
    · rw [if_pos c2, if_pos c2]
    · rw [if_neg c2, if_neg c2]
/-- the laying and the looks of both -/
def RLy (n lks : Nat) (σ υ : HS) : Prop := (1 ≤ n ∧ n ≤ 12) ∧ (1 ≤ lks ∧ lks ≤ 12) ∧ VL n (gI σ 2) ∧ VJ n (gI σ 2) ∧ (gI σ 1 1 = nI n ∧ gI σ 0 1 = nI lks) ∧ gI υ 0 8 = nI n ∧ gI υ 0 9 = nI lks ∧ alk n (gI σ 2) (gI υ 4)
def SLx (i k : Nat) : Prop := (i = 1 ∧ 1 ≤ k ∧ k ≤ 4) ∨ i = 2
def SLm (i k : Nat) : Prop := (i = 0 ∧ (k = 8 ∨ (10 ≤ k ∧ k ≤ 12))) ∨ i = 4
theorem Off.sA {S : Nat → Nat → Prop} {σ : HS} {i : Nat} {f : Nat → Int32} (h : ∀ k, S i k) : Off S σ (sA σ i f) := by
  refine ⟨fun j m c => ?_, fun _ _ _ => rfl, fun _ _ => rfl⟩
  rw [gI_sA, if_neg]
  rintro rfl
  exact c (h m)
/-- `swap` by both -/
theorem op_swap {n lks : Nat} {σ υ : HS} (p1 p2 : Int32) (h : RLy n lks σ υ) : ∃ r σ' υ', c_X8_swap p1 p2 σ = some (r, σ') ∧ c_X9_swap p1 p2 υ = some (r, υ') ∧ RLy n lks σ' υ' ∧ Off SLx σ σ' ∧ Off SLm υ υ' := by
  obtain ⟨⟨h0, hn⟩, hl, hf, hj, ⟨hs, hk⟩, hs2, hk2, e⟩ := h
  have R : RLy n lks σ υ := ⟨⟨h0, hn⟩, hl, hf, hj, ⟨hs, hk⟩, hs2, hk2, e⟩
  rw [c_X8_swap, c_X9_swap, x_has hs, m_box hs2 h0 hn, bi2_s, bi2_s]
  have no : ∀ p : Int32, (p < 0 ∨ (¬ p < 0 ∧ nI n ≤ p)) → (if p < 0 then (0 : Int32) else if nI n ≤ p then 0 else 1) = 0 := by
    intro p c
    rcases c with c | ⟨c, c2⟩
    · rw [if_pos c]
    · rw [if_neg c, if_pos c2]
  have yes : ∀ b, b < n → (if nI b < 0 then (0 : Int32) else if nI n ≤ nI b then 0 else 1) = 1 := by
    intro b hb
    rw [if_neg (nI_pos (by omega)), if_neg (by rw [nI_leI (by omega) (by omega)]; omega)]
  have bad : ∃ r σ' υ', some ((-2 : Int32), σ) = some (r, σ') ∧ some ((-2 : Int32), υ) = some (r, υ') ∧ RLy n lks σ' υ' ∧ Off SLx σ σ' ∧ Off SLm υ υ' := ⟨-2, σ, υ, rfl, rfl, R, Off.rf, Off.rf⟩
  rcases box_cases p1 n (by omega) with c | c | ⟨a, ha, rfl⟩
  · rw [no p1 (Or.inl c), if_pos rfl, if_pos rfl]; exact bad
  · rw [no p1 (Or.inr c), if_pos rfl, if_pos rfl]; exact bad
  rw [yes a ha, if_neg one_ne, if_neg one_ne, x_has hs, m_box hs2 h0 hn, bi2_s, bi2_s]
  rcases box_cases p2 n (by omega) with c | c | ⟨b, hb, rfl⟩
  · rw [no p2 (Or.inl c), if_pos rfl, if_pos rfl]; exact bad
  · rw [no p2 (Or.inr c), if_pos rfl, if_pos rfl]; exact bad
  rw [yes b hb, if_neg one_ne, if_neg one_ne]
  by_cases c : nI a = nI b
  · rw [if_pos c, if_pos c]; exact bad
  · rw [if_neg c, if_neg c, x_change hs hn ha hb, m_changes (by omega) (by omega), bi1_s, bi1_s]
    refine ⟨1, _, _, rfl, rfl, ⟨⟨h0, hn⟩, hl, ?_, ?_, ⟨?_, ?_⟩, ?_, ?_, ?_⟩, Off.sA (fun k => Or.inr rfl), Off.sA (fun k => Or.inr rfl)⟩
    · rw [gI_row]; exact hf.sw ha hb
    · rw [gI_row]; exact hj.sw ha hb
    · rw [gI_rowne (by omega)]; exact hs
    · rw [gI_rowne (by omega)]; exact hk
    · rw [gI_rowne (by omega)]; exact hs2
    · rw [gI_rowne (by omega)]; exact hk2
    · rw [gI_row, gI_row]; exact sw_alk e ha hb
/-- `rings` by both -/
theorem op_rings {n lks : Nat} {σ υ : HS} (p1 : Int32) (h : RLy n lks σ υ) : ∃ r σ' υ', c_X8_rings p1 σ = some (r, σ') ∧ c_X9_rings p1 υ = some (r, υ') ∧ RLy n lks σ' υ' ∧ Off SLx σ σ' ∧ Off SLm υ υ' := by
  obtain ⟨⟨h0, hn⟩, hl, hf, hj, ⟨hs, hk⟩, hs2, hk2, e⟩ := h
  have R : RLy n lks σ υ := ⟨⟨h0, hn⟩, hl, hf, hj, ⟨hs, hk⟩, hs2, hk2, e⟩
  have bad : ∃ r σ' υ', some ((-2 : Int32), σ) = some (r, σ') ∧ some ((-2 : Int32), υ) = some (r, υ') ∧ RLy n lks σ' υ' ∧ Off SLx σ σ' ∧ Off SLm υ υ' := ⟨-2, σ, υ, rfl, rfl, R, Off.rf, Off.rf⟩
  have ein : c_X9_in p1.toInt64 0 2 υ = some (if p1 < 0 then 0 else if 2 < p1 then 0 else 1, υ) := in_is (a := 0) (b := 2)
  rw [c_X8_rings, c_X9_rings, ein, bi2_s]
  by_cases c : p1 < 0
  · rw [if_pos c, if_pos c, if_pos rfl]; exact bad
  rw [if_neg c, if_neg c]
  by_cases c2 : p1 ≤ 2
  · have c3 : ¬ (2 : Int32) < p1 := by
      rw [Int32.lt_iff_toInt_lt]
      rw [Int32.le_iff_toInt_le] at c2
      omega
    rw [if_pos c2, if_neg c3, if_neg one_ne, x_survey hs hn hf hj, bi1_s, m_lays hs2 hn (hf.alk e) (hj.alk e), bi1_s]
    have RR : RLy n lks (svX 1 n σ n) (svY n υ n (svR n (gI υ 4) n)) := by
      refine ⟨⟨h0, hn⟩, hl, ?_, ?_, ⟨?_, ?_⟩, ?_, ?_, ?_⟩
      · rw [svX, t3_row (by omega)]; exact hf
      · rw [svX, t3_row (by omega)]; exact hj
      · rw [svX, t3_ne (by omega)]; exact hs
      · rw [svX, t3_ne (by omega)]; exact hk
      · rw [svY, t3_ne (by omega)]; exact hs2
      · rw [svY, t3_ne (by omega)]; exact hk2
      · rw [svX, svY, t3_row (by omega), t3_row (by omega)]; exact e
    have o1 : Off SLx σ (svX 1 n σ n) := Off.t3 (Or.inl ⟨rfl, by omega, by omega⟩) (Or.inl ⟨rfl, by omega, by omega⟩) (Or.inl ⟨rfl, by omega, by omega⟩)
    have o2 : Off SLm υ (svY n υ n (svR n (gI υ 4) n)) := Off.t3 (Or.inl ⟨rfl, by omega⟩) (Or.inl ⟨rfl, by omega⟩) (Or.inl ⟨rfl, by omega⟩)
    have a2 : gI (svX 1 n σ n) 1 2 = gI (svY n υ n (svR n (gI υ 4) n)) 0 10 := by
      rw [svX, svY, gI_t3, gI_t3, if_neg (by omega), if_neg (by omega), if_pos ⟨rfl, rfl⟩, if_neg (by omega), if_neg (by omega), if_pos ⟨rfl, rfl⟩]
      exact congrArg nI (svR_alk hn hf e n (Nat.le_refl _))
    have a3 : gI (svX 1 n σ n) 1 3 = gI (svY n υ n (svR n (gI υ 4) n)) 0 11 := by
      rw [svX, svY, gI_t3, gI_t3, if_neg (by omega), if_pos ⟨rfl, rfl⟩, if_neg (by omega), if_pos ⟨rfl, rfl⟩]
      exact congrArg nI (svL_alk hn hf e n (Nat.le_refl _))
    have a4 : gI (svX 1 n σ n) 1 4 = gI (svY n υ n (svR n (gI υ 4) n)) 0 12 := by
      rw [svX, svY, gI_t3, gI_t3, if_pos ⟨rfl, rfl⟩, if_pos ⟨rfl, rfl⟩]
      exact congrArg nI (svM_alk e n (Nat.le_refl _))
    by_cases q0 : p1 = 0
    · rw [if_pos q0, if_pos q0]
      exact ⟨_, _, _, rfl, by rw [a2], RR, o1, o2⟩
    · rw [if_neg q0, if_neg q0]
      by_cases q1 : p1 = 1
      · rw [if_pos q1, if_pos q1]
        exact ⟨_, _, _, rfl, by rw [a3], RR, o1, o2⟩
      · rw [if_neg q1, if_neg q1]
        exact ⟨_, _, _, rfl, by rw [a4], RR, o1, o2⟩
  · have c3 : (2 : Int32) < p1 := by
      rw [Int32.lt_iff_toInt_lt]
      rw [Int32.le_iff_toInt_le] at c2
      omega
    rw [if_neg c2, if_pos c3, if_pos rfl]; exact bad
