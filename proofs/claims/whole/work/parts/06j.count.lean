/-! HOW MANY LAYINGS THERE ARE -/
def pvN (p : Nat → Nat) : Nat → Option Nat
  | 0 => none
  | i + 1 => if p i ≤ p (i + 1) then some i else pvN p i
def scN (p : Nat → Nat) (a : Nat) : Nat → Nat
  | 0 => 0
  | j + 1 => if j + 1 ≤ a then j + 1 else if p a ≤ p (j + 1) then j + 1 else scN p a j
def swN (p : Nat → Nat) (a b : Nat) : Nat → Nat := fun k => if k = b then p a else if k = a then p b else p k
def rvN : Nat → (Nat → Nat) → Nat → Nat → (Nat → Nat)
  | 0, p, _, _ => p
  | m + 1, p, a, b => if b ≤ a then p else rvN m (swN p a b) (a + 1) (b - 1)
def mkN (p : Nat → Nat) : Nat → Nat
  | 0 => 0
  | n + 1 => mkN p n + p n * 16 ^ n
def dgN (c k : Nat) : Nat := c / 16 ^ k % 16
/-- the next one's code; 0: none -/
def nxN (n c : Nat) : Nat := match pvN (dgN c) (n - 1) with
  | none => 0
  | some a => mkN (rvN n (swN (dgN c) a (scN (dgN c) a (n - 1))) (a + 1) (n - 1)) n + 16 ^ n
def frc {α : Type} (n : Nat) (k : Nat → α) : α := Nat.rec (motive := fun _ => α) (k 0) (fun m _ => k (m + 1)) n
def chk (n : Nat) : Nat → Nat → Bool
  | 0, c => nxN n c == 0
  | F + 1, c => frc (nxN n c) (fun d => d != 0 && chk n F d)
theorem mkN_lt {p : Nat → Nat} (hp : ∀ k, p k < 16) : ∀ n, mkN p n < 16 ^ n := by
  intro n
  induction n with
  | zero => exact Nat.one_pos
  | succ n ih =>
    have h1 := hp n
    have h2 : p n * 16 ^ n ≤ 15 * 16 ^ n := Nat.mul_le_mul_right _ (by omega)
    rw [mkN, Nat.pow_succ]
    omega
theorem dg_mk {p : Nat → Nat} (hp : ∀ k, p k < 16) : ∀ n t k, k < n → dgN (mkN p n + t * 16 ^ n) k = p k := by
  intro n
  induction n with
  | zero => intro t k h; omega
  | succ n ih =>
    intro t k hk
    have e : mkN p (n + 1) + t * 16 ^ (n + 1) = mkN p n + (p n + 16 * t) * 16 ^ n := by
      rw [mkN, Nat.pow_succ, Nat.add_mul, Nat.mul_comm (16 ^ n) 16, ← Nat.mul_assoc, Nat.mul_comm t 16, Nat.add_assoc]
    rw [e]
    by_cases c : k < n
    · exact ih _ k c
    · have : k = n := by omega
      subst this
      have hpos : 0 < 16 ^ k := Nat.pow_pos (by omega)
      rw [dgN, Nat.add_mul_div_right _ _ hpos, Nat.div_eq_of_lt (mkN_lt hp k), Nat.zero_add]
      have := hp k
      omega
theorem dgN_lt {c k : Nat} : dgN c k < 16 := Nat.mod_lt _ (by omega)
/-- a row of numbers and their ints -/
def Rp (n : Nat) (p : Nat → Nat) (f : Nat → Int32) : Prop := (∀ k, p k < 16) ∧ ∀ k, k < n → f k = nI (p k)
theorem Rp.le {n : Nat} {p : Nat → Nat} {f : Nat → Int32} (h : Rp n p f) {i j : Nat} (hi : i < n) (hj : j < n) : (f i ≤ f j) ↔ p i ≤ p j := by
  rw [h.2 i hi, h.2 j hj]
  have h1 := h.1 i
  have h2 := h.1 j
  exact nI_leI (by omega) (by omega)
theorem Rp.pvE {n : Nat} {p : Nat → Nat} {f : Nat → Int32} (h : Rp n p f) : ∀ i, i < n → pv f i = pvN p i := by
  intro i
  induction i with
  | zero => intro _; rfl
  | succ i ih =>
    intro hi
    rw [pv, pvN]
    by_cases c : p i ≤ p (i + 1)
    · rw [if_pos c, if_pos ((h.le (by omega) hi).mpr c)]
    · rw [if_neg c, if_neg (fun z => c ((h.le (by omega) hi).mp z)), ih (by omega)]
theorem Rp.scE {n a : Nat} {p : Nat → Nat} {f : Nat → Int32} (h : Rp n p f) (ha : a < n) : ∀ i, i < n → sc f a i = scN p a i := by
  intro i
  induction i with
  | zero => intro _; rfl
  | succ i ih =>
    intro hi
    rw [sc, scN]
    by_cases c0 : i + 1 ≤ a
    · rw [if_pos c0, if_pos c0]
    · rw [if_neg c0, if_neg c0]
      by_cases c : p a ≤ p (i + 1)
      · rw [if_pos c, if_pos ((h.le ha hi).mpr c)]
      · rw [if_neg c, if_neg (fun z => c ((h.le ha hi).mp z)), ih (by omega)]
theorem Rp.sw {n a b : Nat} {p : Nat → Nat} {f : Nat → Int32} (h : Rp n p f) (ha : a < n) (hb : b < n) : Rp n (swN p a b) (swf f a b) := by
  refine ⟨fun k => ?_, fun k hk => ?_⟩
  · rw [swN]
    split
    · exact h.1 a
    · split
      · exact h.1 b
      · exact h.1 k
  · rw [swf, swN]
    split
    · exact h.2 a ha
    · split
      · exact h.2 b hb
      · exact h.2 k hk
theorem Rp.rv {n : Nat} : ∀ (m a b : Nat) (p : Nat → Nat) (f : Nat → Int32), Rp n p f → b < n → Rp n (rvN m p a b) (rvf m f a b) := by
  intro m
  induction m with
  | zero => intro a b p f h _; exact h
  | succ m ih =>
    intro a b p f h hb
    rw [rvN, rvf]
    by_cases c : b ≤ a
    · rw [if_pos c, if_pos c]; exact h
    · rw [if_neg c, if_neg c]
      exact ih _ _ _ _ (h.sw (by omega) hb) (by omega)
theorem Rp.nx {n c : Nat} {f : Nat → Int32} (h0 : 0 < n) (h : Rp n (dgN c) f) : (nxN n c = 0 → nxf n f = none) ∧ (nxN n c ≠ 0 → ∃ g, nxf n f = some g ∧ Rp n (dgN (nxN n c)) g) := by
  rw [nxN, nxf, h.pvE (n - 1) (by omega)]
  cases hp : pvN (dgN c) (n - 1) with
  | none => exact ⟨fun _ => rfl, fun z => absurd rfl z⟩
  | some a =>
    have ha : a < n - 1 := by
      have := h.pvE (n - 1) (by omega)
      rw [hp] at this
      exact (pv_lt (n - 1) this).1
    have hs := h.scE (a := a) (by omega) (n - 1) (by omega)
    have hl := sc_lt (f := f) (a := a) (n - 1)
    refine ⟨fun z => ?_, fun _ => ⟨_, rfl, ?_⟩⟩
    · exfalso
      have : 0 < 16 ^ n := Nat.pow_pos (by omega)
      dsimp only at z
      omega
    · have h2 : Rp n (rvN n (swN (dgN c) a (scN (dgN c) a (n - 1))) (a + 1) (n - 1)) (rvf n (swf f a (sc f a (n - 1))) (a + 1) (n - 1)) := by
        rw [hs] at hl ⊢
        exact Rp.rv n (a + 1) (n - 1) _ _ (h.sw (by omega) (by omega)) (by omega)
      refine ⟨fun k => dgN_lt, fun k hk => ?_⟩
      have e := dg_mk h2.1 n 1 k hk
      rw [Nat.one_mul] at e
      dsimp only
      rw [e]
      exact h2.2 k hk
/-- so many more layings -/
def Chn (n : Nat) : Nat → (Nat → Int32) → Prop
  | 0, f => nxf n f = none
  | F + 1, f => ∃ g, nxf n f = some g ∧ Chn n F g
theorem frc_eq {α : Type} (n : Nat) (k : Nat → α) : frc n k = k n := by cases n <;> rfl
theorem chn_of {n : Nat} (h0 : 0 < n) : ∀ (F c : Nat) (f : Nat → Int32), chk n F c = true → Rp n (dgN c) f → Chn n F f := by
  intro F
  induction F with
  | zero =>
    intro c f h hr
    rw [chk, beq_iff_eq] at h
    exact (hr.nx h0).1 h
  | succ F ih =>
    intro c f h hr
    rw [chk, frc_eq, Bool.and_eq_true, bne_iff_ne] at h
    obtain ⟨g, e, hg⟩ := (hr.nx h0).2 h.1
    exact ⟨g, e, ih _ g h.2 hg⟩
theorem own_rp {n : Nat} (hn : n ≤ 7) {f : Nat → Int32} (h : ∀ k, k < n → f k = nI k) : Rp n (dgN (mkN (fun k => k % 16) n)) f := by
  refine ⟨fun k => dgN_lt, fun k hk => ?_⟩
  have := dg_mk (p := fun k => k % 16) (fun k => Nat.mod_lt _ (by omega)) n 0 k hk
  rw [Nat.zero_mul, Nat.add_zero] at this
  rw [this, h k hk]
  show nI k = nI (k % 16)
  rw [Nat.mod_eq_of_lt (by omega)]
def facN : Nat → Nat
  | 0 => 1
  | n + 1 => (n + 1) * facN n
set_option maxRecDepth 1000000 in
theorem chk1 : chk 1 0 (mkN (fun k => k % 16) 1) = true := by decide +kernel
set_option maxRecDepth 1000000 in
theorem chk2 : chk 2 1 (mkN (fun k => k % 16) 2) = true := by decide +kernel
set_option maxRecDepth 1000000 in
theorem chk3 : chk 3 5 (mkN (fun k => k % 16) 3) = true := by decide +kernel
set_option maxRecDepth 1000000 in
theorem chk4 : chk 4 23 (mkN (fun k => k % 16) 4) = true := by decide +kernel
set_option maxRecDepth 1000000 in
theorem chk5 : chk 5 119 (mkN (fun k => k % 16) 5) = true := by decide +kernel
set_option maxRecDepth 1000000 in
theorem chk6 : chk 6 719 (mkN (fun k => k % 16) 6) = true := by decide +kernel
set_option maxRecDepth 1000000 in
theorem chk7 : chk 7 5039 (mkN (fun k => k % 16) 7) = true := by decide +kernel
/-- from the own laying on there are as many as the product says -/
theorem own_chn {n : Nat} (h0 : 0 < n) (hn : n ≤ 7) {f : Nat → Int32} (h : ∀ k, k < n → f k = nI k) : Chn n (facN n - 1) f := by
  refine chn_of h0 _ _ f ?_ (own_rp hn h)
  rcases (show n = 1 ∨ n = 2 ∨ n = 3 ∨ n = 4 ∨ n = 5 ∨ n = 6 ∨ n = 7 by omega) with rfl | rfl | rfl | rfl | rfl | rfl | rfl
  · exact chk1
  · exact chk2
  · exact chk3
  · exact chk4
  · exact chk5
  · exact chk6
  · exact chk7
