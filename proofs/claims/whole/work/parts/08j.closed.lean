/-! CLOSED, ENOUGH -/
def wn (g : Nat → Int64) (size most : Nat) : Nat → Nat → Int64 → Int64 → Int64
  | 0, _, s, _ => s
  | m + 1, r, s, d => if r ≤ size ∧ r ≤ most then wn g size most m (r + 1) (s + d * g (size - r)) (d * (nI (size - r)).toInt64) else s
def Gs (most : Nat) : Nat → Nat → Int64
  | 0, _ => 1
  | k + 1, i => if i = k + 1 then wn (Gs most k) (k + 1) most 13 1 0 1 else Gs most k i
theorem wn_alk {g h : Nat → Int64} {size most : Nat} (e : ∀ i, i < size → g i = h i) : ∀ m r s d, 1 ≤ r → wn g size most m r s d = wn h size most m r s d := by
  intro m
  induction m with
  | zero => intro r s d _; rfl
  | succ m ih =>
    intro r s d hr
    rw [wn, wn]
    by_cases c : r ≤ size ∧ r ≤ most
    · rw [if_pos c, if_pos c, e (size - r) (by omega)]; exact ih _ _ _ (by omega)
    · rw [if_neg c, if_neg c]
theorem sJ_k {σ : HS} {i k m : Nat} {v : Int64} (h : m ≠ k) : gJ (sJ σ i k v) i m = gJ σ i m := by rw [gJ_sJ, if_neg (by omega)]
theorem x_wnL {n most size : Nat} {k9 : Int32 → Int32 → Int32 → HS → Option (Int64 × HS)} (hn : n ≤ 12) (hm : most ≤ 12) (h1 : 1 ≤ size) (hs : size ≤ 12) : ∀ (F m r : Nat) (s d : Int64) (σ : HS), m < F → r + m = 14 → 1 ≤ r → c_X8_waysClosed_29 k9 F (nI n) (nI most) (nI size) s d (nI r) σ = k9 (nI n) (nI most) (nI (size + 1)) (sJ σ 17 size (wn (gJ σ 17) size most m r s d)) := by
  intro F
  induction F with
  | zero => intro m r s d σ h; omega
  | succ F ih =>
    intro m r s d σ hF hr h1r
    have d74 : ∀ v, c_X8_waysClosed_74 k9 (nI n) (nI most) (nI size) v σ = k9 (nI n) (nI most) (nI (size + 1)) (sJ σ 17 size v) := by
      intro v
      rw [c_X8_waysClosed_74, if_pos (inb_nI (by omega) (by omega)), lt_eqq, ix_nI (by omega), nI_1]
    rw [c_X8_waysClosed_29]
    by_cases c1 : size < r
    · rw [if_pos (by rw [nI_ltI (by omega) (by omega)]; exact c1), d74]
      cases m with
      | zero => rw [wn]
      | succ m => rw [wn, if_neg (by omega)]
    rw [if_neg (by rw [nI_ltI (by omega) (by omega)]; exact c1)]
    by_cases c2 : most < r
    · rw [if_pos (by rw [nI_ltI (by omega) (by omega)]; exact c2), d74]
      cases m with
      | zero => rw [wn]
      | succ m => rw [wn, if_neg (by omega)]
    rw [if_neg (by rw [nI_ltI (by omega) (by omega)]; exact c2), nI_sub (by omega), if_pos (inb_nI (by omega) (by omega)), ix_nI (by omega), nI_1]
    obtain ⟨m, rfl⟩ : ∃ m', m = m' + 1 := ⟨m - 1, by omega⟩
    rw [wn, if_pos ⟨by omega, by omega⟩]
    exact ih m (r + 1) _ _ σ (by omega) (by omega) (by omega)
theorem x_waysL {n most : Nat} (hn : n ≤ 12) (hm : most ≤ 12) : ∀ (F k : Nat) (σ : HS), n - k < F → k ≤ n → (∀ i, i ≤ k → gJ σ 17 i = Gs most k i) → ∃ τ, c_X8_waysClosed_9 F (nI n) (nI most) (nI (k + 1)) σ = some (Gs most n n, τ) ∧ Off (fun i _ => i = 17) σ τ := by
  intro F
  induction F with
  | zero => intro k σ h; omega
  | succ F ih =>
    intro k σ hF hk hG
    have d88 : c_X8_waysClosed_88 (nI n) σ = some (gJ σ 17 n, σ) := by
      rw [c_X8_waysClosed_88, if_neg (nI_pos (by omega)), if_neg (by rw [show (12 : Int32) = nI 12 from rfl, nI_ltI (by omega) (by omega)]; omega), if_pos (inb_nI (by omega) (by omega)), ix_nI (by omega)]
    rw [c_X8_waysClosed_9]
    by_cases c : n < k + 1
    · have : k = n := by omega
      subst this
      rw [if_pos (by rw [nI_ltI (by omega) (by omega)]; exact c), d88, hG k (Nat.le_refl _)]
      exact ⟨σ, rfl, Off.rf⟩
    · rw [if_neg (by rw [nI_ltI (by omega) (by omega)]; exact c), if_neg (by rw [show (12 : Int32) = nI 12 from rfl, nI_ltI (by omega) (by omega)]; omega)]
      have e := x_wnL (k9 := fun z0 z1 z2 z3 => c_X8_waysClosed_9 F z0 z1 z2 z3) hn hm (show 1 ≤ k + 1 by omega) (show k + 1 ≤ 12 by omega) FU 13 1 0 1 σ (by rw [FU]; omega) (by omega) (by omega)
      rw [show c_X8_waysClosed_29 (fun z0 z1 z2 z3 => c_X8_waysClosed_9 F z0 z1 z2 z3) FU (nI n) (nI most) (nI (k + 1)) 0 1 1 σ = _ from e, wn_alk (h := Gs most k) (fun i hi => hG i (by omega)) 13 1 0 1 (by omega)]
      obtain ⟨τ, e2, o2⟩ := ih (k + 1) (sJ σ 17 (k + 1) (wn (Gs most k) (k + 1) most 13 1 0 1)) (by omega) (by omega) (fun i hi => by
        rw [Gs]
        by_cases c3 : i = k + 1
        · rw [if_pos c3, c3, sJ_at]
        · rw [if_neg c3, sJ_k c3]; exact hG i (by omega))
      exact ⟨τ, e2, Off.tr (Off.sJ rfl) o2⟩
theorem x_ways {n most : Nat} {σ : HS} (hn : n ≤ 12) (hm : most ≤ 12) : ∃ τ, c_X8_waysClosed (nI n) (nI most) σ = some (Gs most n n, τ) ∧ Off (fun i _ => i = 17) σ τ := by
  obtain ⟨τ, e, o⟩ := x_waysL hn hm FU 0 (sJ σ 17 0 1) (by rw [FU]; omega) (by omega) (fun i hi => by
    have : i = 0 := by omega
    subst this
    rw [sJ_at]; rfl)
  exact ⟨τ, e, Off.tr (Off.sJ rfl) o⟩
theorem m_wnL {n most size : Nat} {k9 : Int32 → Int32 → Int32 → HS → Option (Int64 × HS)} (hn : n ≤ 12) (hm : most ≤ 12) (h1 : 1 ≤ size) (hs : size ≤ 12) : ∀ (F m r : Nat) (s d : Int64) (σ : HS), m < F → r + m = 14 → 1 ≤ r → c_X9_closedBy_27 k9 F (nI n) (nI most) (nI size) d (nI r) (sJ σ 7 size s) = k9 (nI n) (nI most) (nI (size + 1)) (sJ σ 7 size (wn (gJ σ 7) size most m r s d)) := by
  intro F
  induction F with
  | zero => intro m r s d σ h; omega
  | succ F ih =>
    intro m r s d σ hF hr h1r
    have d76 : ∀ τ, c_X9_closedBy_76 k9 (nI n) (nI most) (nI size) τ = k9 (nI n) (nI most) (nI (size + 1)) τ := by
      intro v
      rw [c_X9_closedBy_76, nI_1]
    rw [c_X9_closedBy_27]
    by_cases c2 : most < r
    · rw [if_pos (by rw [nI_ltI (by omega) (by omega)]; exact c2), d76]
      cases m with
      | zero => rw [wn]
      | succ m => rw [wn, if_neg (by omega)]
    rw [if_neg (by rw [nI_ltI (by omega) (by omega)]; exact c2)]
    by_cases c1 : size < r
    · rw [if_pos (by rw [nI_ltI (by omega) (by omega)]; exact c1), d76]
      cases m with
      | zero => rw [wn]
      | succ m => rw [wn, if_neg (by omega)]
    have i1 := inb_nI (show size < 13 by omega) (by omega)
    rw [if_neg (by rw [nI_ltI (by omega) (by omega)]; exact c1), if_pos i1, nI_sub (by omega), if_pos (inb_nI (by omega) (by omega)), if_pos i1, lt_eqq, ix_nI (by omega), ix_nI (by omega), sJ_at, sJ_k (by omega), sJ_sJ, nI_1]
    obtain ⟨m, rfl⟩ : ∃ m', m = m' + 1 := ⟨m - 1, by omega⟩
    rw [wn, if_pos ⟨by omega, by omega⟩]
    exact ih m (r + 1) _ _ σ (by omega) (by omega) (by omega)
theorem m_waysL {n most : Nat} (hn : n ≤ 12) (hm : most ≤ 12) : ∀ (F k : Nat) (σ : HS), n - k < F → k ≤ n → (∀ i, i ≤ k → gJ σ 7 i = Gs most k i) → ∃ τ, c_X9_closedBy_9 F (nI n) (nI most) (nI (k + 1)) σ = some (Gs most n n, τ) ∧ Off (fun i _ => i = 7) σ τ := by
  intro F
  induction F with
  | zero => intro k σ h; omega
  | succ F ih =>
    intro k σ hF hk hG
    rw [c_X9_closedBy_9]
    by_cases c : n < k + 1
    · have : k = n := by omega
      subst this
      rw [if_pos (by rw [nI_ltI (by omega) (by omega)]; exact c), c_X9_closedBy_82, if_pos (inb_nI (by omega) (by omega)), ix_nI (by omega), hG k (Nat.le_refl _)]
      exact ⟨σ, rfl, Off.rf⟩
    · rw [if_neg (by rw [nI_ltI (by omega) (by omega)]; exact c), if_pos (inb_nI (by omega) (by omega)), lt_eqq, ix_nI (by omega)]
      have e := m_wnL (k9 := fun z0 z1 z2 z3 => c_X9_closedBy_9 F z0 z1 z2 z3) hn hm (show 1 ≤ k + 1 by omega) (show k + 1 ≤ 12 by omega) FU 13 1 0 1 σ (by rw [FU]; omega) (by omega) (by omega)
      rw [show c_X9_closedBy_27 (fun z0 z1 z2 z3 => c_X9_closedBy_9 F z0 z1 z2 z3) FU (nI n) (nI most) (nI (k + 1)) 1 1 (sJ σ 7 (k + 1) 0) = _ from e, wn_alk (h := Gs most k) (fun i hi => hG i (by omega)) 13 1 0 1 (by omega)]
      obtain ⟨τ, e2, o2⟩ := ih (k + 1) (sJ σ 7 (k + 1) (wn (Gs most k) (k + 1) most 13 1 0 1)) (by omega) (by omega) (fun i hi => by
        rw [Gs]
        by_cases c3 : i = k + 1
        · rw [if_pos c3, c3, sJ_at]
        · rw [if_neg c3, sJ_k c3]; exact hG i (by omega))
      exact ⟨τ, e2, Off.tr (Off.sJ rfl) o2⟩
theorem m_ways {n most : Nat} {σ : HS} (hn : n ≤ 12) (hm : most ≤ 12) : ∃ τ, c_X9_closedBy (nI n) (nI most) σ = some (Gs most n n, τ) ∧ Off (fun i _ => i = 7) σ τ := by
  obtain ⟨τ, e, o⟩ := m_waysL hn hm FU 0 (sJ σ 7 0 1) (by rw [FU]; omega) (by omega) (fun i hi => by
    have : i = 0 := by omega
    subst this
    rw [sJ_at]; rfl)
  exact ⟨τ, e, Off.tr (Off.sJ rfl) o⟩
theorem rng_cases (p : Int32) (M : Nat) (hM : M < 1000) : p < 0 ∨ (¬ p < 0 ∧ nI M < p) ∨ ∃ h, h ≤ M ∧ p = nI h := by
  by_cases c : p < 0
  · exact Or.inl c
  obtain ⟨j, hj, rfl⟩ := nI_of c
  by_cases c2 : M < j
  · exact Or.inr (Or.inl ⟨c, (nI_ltI (by omega) hj).mpr c2⟩)
  · exact Or.inr (Or.inr ⟨j, by omega, rfl⟩)
theorem RelE.ways {pc : Nat} {σ υ σ' υ' : HS} (h : RelE pc σ υ) (o : Off (fun i _ => i = 17) σ σ') (o2 : Off (fun i _ => i = 7) υ υ') : RelE pc σ' υ' := by
  obtain ⟨n, lks, tc, t, ev, H⟩ := h
  exact ⟨n, lks, tc, t, ev, H.scr o o2 (fun i k z => by unfold Wa; omega) (fun i k z => by unfold Wm; omega) (by rw [o2.row (i := 4) (fun k => by omega)]; exact alk_rf)⟩
theorem Op_closed {pc : Nat} {σ υ : HS} (p1 p2 : Int32) (h : RelE pc σ υ) : ∃ r σ' υ', c_X8_closed p1 p2 σ = some (r, σ') ∧ c_X9_closed p1 p2 υ = some (r, υ') ∧ RelE pc σ' υ' := by
  have bad : ∃ r σ' υ', some ((-4611686018427387904 : Int64), σ) = some (r, σ') ∧ some ((-4611686018427387904 : Int64), υ) = some (r, υ') ∧ RelE pc σ' υ' := ⟨_, σ, υ, rfl, rfl, h⟩
  have i12 : ∀ p : Int32, c_X9_in p.toInt64 0 12 υ = some (if p < 0 then 0 else if 12 < p then 0 else 1, υ) := fun p => in_is (a := 0) (b := 12)
  rw [c_X8_closed, c_X9_closed, in_1_12, bi2_s]
  rcases one12 p1 with c | ⟨c, c2⟩ | ⟨q, h1, h12, rfl⟩
  · rw [if_pos c, if_pos c, if_pos rfl]; exact bad
  · rw [if_neg c, if_pos (i_not_le.mp c2), if_neg c, if_pos (i_not_le.mp c2), if_pos rfl]; exact bad
  have c : ¬ nI q < 1 := by rw [show (1 : Int32) = nI 1 from rfl, nI_ltI (by omega) (by omega)]; omega
  have c2 : ¬ 12 < nI q := by rw [show (12 : Int32) = nI 12 from rfl, nI_ltI (by omega) (by omega)]; omega
  rw [if_neg c, if_neg c2, if_neg c, if_neg c2, if_neg one_ne, i12, bi2_s]
  rcases rng_cases p2 12 (by omega) with z | ⟨z, z2⟩ | ⟨m, hm, rfl⟩
  · rw [if_pos z, if_pos z, if_pos rfl]; exact bad
  · have z3 : ¬ p2 ≤ 12 := fun y => le_iff_nlt.mp y z2
    rw [if_neg z, if_neg z3, if_neg z, if_pos (show (12 : Int32) < p2 from z2), if_pos rfl]; exact bad
  have z3 : ¬ 12 < nI m := by rw [show (12 : Int32) = nI 12 from rfl, nI_ltI (by omega) (by omega)]; omega
  obtain ⟨s1, e1, o1⟩ := x_ways (σ := σ) h12 hm
  obtain ⟨s2, e2, o2⟩ := m_ways (σ := υ) h12 hm
  rw [if_neg (nI_pos (by omega)), if_pos (le_iff_nlt.mpr z3), if_neg (nI_pos (by omega)), if_neg z3, if_neg one_ne, e1, e2, bi2_s, bi2_s]
  exact ⟨_, s1, s2, rfl, rfl, h.ways o1 o2⟩
theorem Gs_nn : ∀ n, 1 ≤ n → n ≤ 12 → Gs n n n = facJ n := by
  intro n h1 h2
  have : n = 1 ∨ n = 2 ∨ n = 3 ∨ n = 4 ∨ n = 5 ∨ n = 6 ∨ n = 7 ∨ n = 8 ∨ n = 9 ∨ n = 10 ∨ n = 11 ∨ n = 12 := by omega
  rcases this with rfl | rfl | rfl | rfl | rfl | rfl | rfl | rfl | rfl | rfl | rfl | rfl <;> decide +kernel
theorem fac_le {n h : Nat} (h1 : 1 ≤ n) (h2 : n ≤ 12) (hh : h ≤ 100) : 0 ≤ lg_cmp (facJ n * 100) (lN h * facJ n) := by
  have hf : ∃ a, a ≤ 479001600 ∧ facJ n = lN a := by
    have : n = 1 ∨ n = 2 ∨ n = 3 ∨ n = 4 ∨ n = 5 ∨ n = 6 ∨ n = 7 ∨ n = 8 ∨ n = 9 ∨ n = 10 ∨ n = 11 ∨ n = 12 := by omega
    refine ⟨facN n, ?_, ?_⟩
    · rcases this with rfl | rfl | rfl | rfl | rfl | rfl | rfl | rfl | rfl | rfl | rfl | rfl <;> decide +kernel
    · rcases this with rfl | rfl | rfl | rfl | rfl | rfl | rfl | rfl | rfl | rfl | rfl | rfl <;> decide +kernel
  obtain ⟨a, ha, e⟩ := hf
  rw [lg_cmp_ge, e, show (100 : Int64) = lN 100 from rfl, lN_mul, lN_mul, Int64.le_iff_toInt_le]
  have p1 : h * a ≤ 100 * a := Nat.mul_le_mul_right _ hh
  rw [show (lN (h * a)).toInt = ((h * a : Nat) : Int) from lg_ofNat_toInt (by omega), show (lN (a * 100)).toInt = ((a * 100 : Nat) : Int) from lg_ofNat_toInt (by omega)]
  omega
theorem Op_enough {pc : Nat} {σ υ : HS} (p1 p2 : Int32) (h : RelE pc σ υ) : ∃ r σ' υ', c_X8_enough p1 p2 σ = some (r, σ') ∧ c_X9_enough p1 p2 υ = some (r, υ') ∧ RelE pc σ' υ' := by
  have bad : ∀ v : Int32, ∃ r σ' υ', some (v, σ) = some (r, σ') ∧ some (v, υ) = some (r, υ') ∧ RelE pc σ' υ' := fun v => ⟨_, σ, υ, rfl, rfl, h⟩
  have i12 : ∀ p : Int32, c_X9_in p.toInt64 0 100 υ = some (if p < 0 then 0 else if 100 < p then 0 else 1, υ) := fun p => in_is (a := 0) (b := 100)
  rw [c_X8_enough, c_X9_enough, in_1_12, bi2_s]
  rcases one12 p1 with c | ⟨c, c2⟩ | ⟨q, h1, h12, rfl⟩
  · rw [if_pos c, if_pos c, if_pos rfl]; exact bad _
  · rw [if_neg c, if_pos (i_not_le.mp c2), if_neg c, if_pos (i_not_le.mp c2), if_pos rfl]; exact bad _
  have c : ¬ nI q < 1 := by rw [show (1 : Int32) = nI 1 from rfl, nI_ltI (by omega) (by omega)]; omega
  have c2 : ¬ 12 < nI q := by rw [show (12 : Int32) = nI 12 from rfl, nI_ltI (by omega) (by omega)]; omega
  rw [if_neg c, if_neg c2, if_neg c, if_neg c2, if_neg one_ne, i12, bi2_s]
  rcases rng_cases p2 100 (by omega) with z | ⟨z, z2⟩ | ⟨m, hm, rfl⟩
  · rw [if_pos z, if_pos z, if_pos rfl]; exact bad _
  · have z3 : ¬ p2 ≤ 100 := fun y => le_iff_nlt.mp y z2
    rw [if_neg z, if_neg z3, if_neg z, if_pos (show (100 : Int32) < p2 from z2), if_pos rfl]; exact bad _
  have z3 : ¬ 100 < nI m := by rw [show (100 : Int32) = nI 100 from rfl, nI_ltI (by omega) (by omega)]; omega
  rw [if_neg (nI_pos (by omega)), if_pos (le_iff_nlt.mpr z3), if_neg (nI_pos (by omega)), if_neg z3, if_neg one_ne, x_fac h1 h12, bi2_s, nI_l (by omega)]
  have L : ∀ (d F k : Nat) (σ1 υ1 : HS), k + d = q → d + 1 ≤ F → RelE pc σ1 υ1 → ∃ r σ' υ', c_X8_enough_35 F (nI q) (lN m * facJ q) (nI k) σ1 = some (r, σ') ∧ c_X9_enough_29 F (nI q) (nI m) (nI k) υ1 = some (r, υ') ∧ RelE pc σ' υ' := by
    intro d
    induction d with
    | zero =>
      intro F k σ1 υ1 hk hF hR
      obtain ⟨F, rfl⟩ : ∃ F', F = F' + 1 := ⟨F - 1, by omega⟩
      have : k = q := by omega
      subst this
      obtain ⟨s2, e2, o2⟩ := m_ways (σ := υ1) (most := k) h12 h12
      rw [c_X8_enough_35, if_pos (by rw [nI_leI (by omega) (by omega)]; omega), c_X9_enough_29, e2, bi2_s, m_fac h1 h12, bi2_s, Gs_nn k h1 h12, nI_l (by omega), if_pos (fac_le h1 h12 hm)]
      exact ⟨_, σ1, s2, rfl, rfl, hR.ways Off.rf o2⟩
    | succ d ih =>
      intro F k σ1 υ1 hk hF hR
      obtain ⟨F, rfl⟩ : ∃ F', F = F' + 1 := ⟨F - 1, by omega⟩
      obtain ⟨s1, e1, o1⟩ := x_ways (σ := σ1) (most := k) h12 (by omega)
      obtain ⟨s2, e2, o2⟩ := m_ways (σ := υ1) (most := k) h12 (by omega)
      have R2 := hR.ways o1 o2
      rw [c_X8_enough_35, if_neg (by rw [nI_leI (by omega) (by omega)]; omega), c_X9_enough_29, e1, e2, bi2_s, bi2_s, m_fac h1 h12, bi2_s, nI_l (by omega), Int64.mul_comm 100]
      by_cases c3 : 0 ≤ lg_cmp (Gs k q q * 100) (lN m * facJ q)
      · rw [if_pos c3, if_pos c3]; exact ⟨_, s1, s2, rfl, rfl, R2⟩
      · rw [if_neg c3, if_neg c3, nI_1]; exact ih F (k + 1) s1 s2 (by omega) (by omega) R2
  exact L q FU 0 σ υ (by omega) (by rw [FU]; omega) h
