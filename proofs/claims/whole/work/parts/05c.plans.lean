/-! THE METHOD `plans` -/
theorem same_has {i0 : Nat} {p1 : Int32} {σ s : HS} {r : Int32} (h : c_X3_has i0 p1 σ = some (r, s)) : s = σ := by
  rw [c_X3_has] at h
  split at h
  · cases h; rfl
  · split at h <;> cases h <;> rfl
theorem same_isMissing {i0 : Nat} {σ s : HS} {r : Int32} (h : c_X3_isMissing i0 σ = some (r, s)) : s = σ := by
  rw [c_X3_isMissing] at h
  split at h <;> cases h <;> rfl
theorem same_hasAll {i0 : Nat} {p1 p2 : Int32} {σ s : HS} {r : Int32} (h : c_X3_hasAll i0 p1 p2 σ = some (r, s)) : s = σ := by
  rw [c_X3_hasAll] at h
  split at h
  · cases h; rfl
  · split at h
    · cases h; rfl
    · split at h
      · cases h; rfl
      · split at h <;> cases h <;> rfl
theorem same_at {i0 : Nat} {p1 : Int32} {σ s : HS} {r : Int32} (h : c_X3_at i0 p1 σ = some (r, s)) : s = σ := by
  rw [c_X3_at] at h
  obtain ⟨r1, s1, h1, h2⟩ := bd2 h
  clear h
  have e := same_has h1
  by_cases c : r1 = 0
  · have h3 := ift c h2
    simp only [Option.some.injEq, Prod.mk.injEq] at h3
    rw [← h3.2, e]
  · obtain ⟨-, h3⟩ := gd (ifn c h2)
    simp only [Option.some.injEq, Prod.mk.injEq] at h3
    rw [← h3.2, e]
theorem same_sheetAt {p1 : Int32} {σ s : HS} {r : Option Nat} (h : c_X8_sheetAt p1 σ = some (r, s)) : s = σ := by
  rw [c_X8_sheetAt] at h
  by_cases c : p1 < 0
  · have h3 := ift c h
    simp only [Option.some.injEq, Prod.mk.injEq] at h3
    exact h3.2.symm
  · have h2 := ifn c h
    by_cases c : 4 ≤ p1
    · have h3 := ift c h2
      simp only [Option.some.injEq, Prod.mk.injEq] at h3
      exact h3.2.symm
    · obtain ⟨-, h3⟩ := gd (ifn c h2)
      simp only [Option.some.injEq, Prod.mk.injEq] at h3
      exact h3.2.symm
