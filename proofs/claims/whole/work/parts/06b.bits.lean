/-! BITS OF AN INT -/
def bt (x : Int32) (v : Nat) : Bool := x.toBitVec.getLsbD v
theorem and31 {v : Nat} (h : v < 32) : nI v &&& 31 = nI v := by
  have : ∀ v, v < 32 → nI v &&& 31 = nI v := by decide +kernel
  exact this v h
theorem bit_sr {x : Int32} {v : Nat} (h : v < 32) : ((x >>> (nI v &&& 31)) &&& 1).toBitVec.getLsbD 0 = x.toBitVec.getLsbD v := by
  rw [and31 h]
  rw [Int32.toBitVec_and, Int32.toBitVec_shiftRight]
  have e : ((nI v).toBitVec.smod 32).toNat = v := by
    have : ∀ v, v < 32 → ((nI v).toBitVec.smod 32).toNat = v := by decide +kernel
    exact this v h
  rw [BitVec.getLsbD_and, BitVec.sshiftRight_eq', e, BitVec.getLsbD_sshiftRight]
  have : (1 : Int32).toBitVec.getLsbD 0 = true := by decide
  rw [this]
  simp [h]
theorem and1_cases (x : Int32) : x &&& 1 = 0 ∨ x &&& 1 = 1 := by
  have : (x &&& 1).toBitVec = 0 ∨ (x &&& 1).toBitVec = 1 := by
    rw [Int32.toBitVec_and]
    show x.toBitVec &&& 1 = 0 ∨ x.toBitVec &&& 1 = 1
    rcases h : x.toBitVec.getLsbD 0 with _ | _
    · left
      apply BitVec.eq_of_getLsbD_eq
      intro i hi
      rw [BitVec.getLsbD_and]
      rcases i with _ | i
      · rw [h]; rfl
      · simp [BitVec.getLsbD_one]
    · right
      apply BitVec.eq_of_getLsbD_eq
      intro i hi
      rw [BitVec.getLsbD_and]
      rcases i with _ | i
      · rw [h]; rfl
      · simp [BitVec.getLsbD_one]
  rcases this with h | h
  · exact Or.inl (Int32.toBitVec_inj.mp h)
  · exact Or.inr (Int32.toBitVec_inj.mp h)
theorem bit0 {x : Int32} {v : Nat} (h : v < 32) : ((x >>> (nI v &&& 31)) &&& 1 = 0) ↔ bt x v = false := by
  have h1 := bit_sr (x := x) h
  rw [bt, ← h1]
  constructor
  · intro e; rw [e]; rfl
  · intro e
    rcases and1_cases (x >>> (nI v &&& 31)) with c | c
    · exact c
    · rw [c] at e; exact absurd e (by decide)
theorem bit1 {x : Int32} {v : Nat} (h : v < 32) : ((x >>> (nI v &&& 31)) &&& 1 = 1) ↔ bt x v = true := by
  have h1 := bit_sr (x := x) h
  rw [bt, ← h1]
  constructor
  · intro e; rw [e]; rfl
  · intro e
    rcases and1_cases (x >>> (nI v &&& 31)) with c | c
    · rw [c] at e; exact absurd e (by decide)
    · exact c
theorem bit_or {x : Int32} {v w : Nat} (h : v < 32) (hw : w < 32) : bt (x ||| ((1 : Int32) <<< (nI v &&& 31))) w = (bt x w || decide (w = v)) := by
  rw [and31 h, bt, Int32.toBitVec_or, BitVec.getLsbD_or]
  have : ∀ v, v < 32 → ∀ w, w < 32 → ((1 : Int32) <<< (nI v)).toBitVec.getLsbD w = decide (w = v) := by decide +kernel
  rw [this v h w hw, bt]
theorem bt0 (w : Nat) : bt 0 w = false := by
  show (0#32).getLsbD w = false
  exact BitVec.getLsbD_zero
