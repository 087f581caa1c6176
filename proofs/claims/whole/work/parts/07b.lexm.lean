/-! LEXING by the reference -/
def TpM (b : Nat → Nat) (sz t : Nat) (τ : HS) : Prop := (sz ≤ 160 ∧ ∀ k, k < sz → b k < 256) ∧ t < 6 ∧ gI τ 0 13 = nI (160 * t) ∧ gI τ 0 14 = nI sz ∧ ∀ k, k < sz → gI τ 1 (160 * t + k) = nI (b k)
theorem m_bat {b : Nat → Nat} {sz t : Nat} {τ : HS} (h : TpM b sz t τ) {p : Nat} (hp : p < 2 ^ 31) : c_X9_byteAt (nI p) τ = some (gB b sz p, τ) := by
  obtain ⟨⟨hz, _⟩, ht, hf, hs, hb⟩ := h
  rw [c_X9_byteAt, hs, hf, gB]
  by_cases c : p < sz
  · rw [if_neg (by rw [nI_leI (by omega) hp]; omega), nI_add, if_pos (inb_nI (by omega) (by omega)), ix_nI (by omega), if_pos c]
    exact congrArg (fun z => some (z, τ)) (hb p c)
  · rw [if_pos (by rw [nI_leI (by omega) hp]; omega), if_neg c]
theorem TpM.sI {b : Nat → Nat} {sz t : Nat} {τ : HS} {k : Nat} {v : Int32} (h : TpM b sz t τ) (hk : 15 ≤ k) : TpM b sz t (sI τ 0 k v) :=
  ⟨h.1, h.2.1, by rw [sI_k (by omega)]; exact h.2.2.1, by rw [sI_k (by omega)]; exact h.2.2.2.1, fun j hj => by rw [sI_i (by omega)]; exact h.2.2.2.2 j hj⟩
theorem TpM.sJ {b : Nat → Nat} {sz t : Nat} {τ : HS} {k : Nat} {v : Int64} (h : TpM b sz t τ) : TpM b sz t (sJ τ 0 k v) := h
theorem m_blankL {b : Nat → Nat} {sz t : Nat} {τ : HS} (h : TpM b sz t τ) : ∀ (F m p : Nat), m < F → sz ≤ p + m → p + m ≤ 400 → c_X9_next1_0 F (sI τ 0 18 (nI p)) = c_X9_next1_39 (sI τ 0 18 (nI (rn pB (gB b sz) m p))) := by
  intro F
  induction F with
  | zero => intro m p h1; omega
  | succ F ih =>
    intro m p hF hm hp
    have h' : TpM b sz t (sI τ 0 18 (nI p)) := h.sI (by omega)
    rw [c_X9_next1_0, sI_at, m_bat h' (by omega), bi2_s]
    by_cases c : gB b sz p = 32
    · cases m with
      | zero => rw [gB_out (by omega)] at c; exact absurd c (by decide)
      | succ m =>
        rw [if_pos c, c_X9_next1_26, lt_eqq, sI_at, sI_sI, nI_1, rn, if_pos (by rw [pB, if_pos c])]
        exact ih m (p + 1) (by omega) (by omega) (by omega)
    · rw [if_neg c, sI_at, m_bat h' (by omega), bi2_s]
      by_cases c2 : gB b sz p = 10
      · cases m with
        | zero => rw [gB_out (by omega)] at c2; exact absurd c2 (by decide)
        | succ m =>
          rw [if_pos c2, c_X9_next1_26, lt_eqq, sI_at, sI_sI, nI_1, rn, if_pos (by rw [pB, if_neg c, if_pos c2])]
          exact ih m (p + 1) (by omega) (by omega) (by omega)
      · rw [if_neg c2]
        cases m with
        | zero => rw [rn]
        | succ m => rw [rn, if_neg (by rw [pB, if_neg c, if_neg c2]; decide)]
/-! what a word or a number is worth -/
def J18 (σ : HS) (v : Int64) (h : Int32) : HS := sI (sJ σ 0 17 v) 0 18 h
theorem J18_J18 (σ : HS) (v w : Int64) (h k : Int32) : J18 (J18 σ v h) w k = J18 σ w k := by
  refine HS_ext (fun j m => ?_) (fun j m => ?_) (fun _ _ => rfl)
  · show (if j = 0 ∧ m = 18 then k else if j = 0 ∧ m = 18 then h else gI σ j m) = (if j = 0 ∧ m = 18 then k else gI σ j m)
    by_cases c : j = 0 ∧ m = 18
    · rw [if_pos c, if_pos c]
    · rw [if_neg c, if_neg c, if_neg c]
  · show (if j = 0 ∧ m = 17 then w else if j = 0 ∧ m = 17 then v else gJ σ j m) = (if j = 0 ∧ m = 17 then w else gJ σ j m)
    by_cases c : j = 0 ∧ m = 17
    · rw [if_pos c, if_pos c]
    · rw [if_neg c, if_neg c, if_neg c]
theorem J18_i (σ : HS) (v : Int64) (h : Int32) : gI (J18 σ v h) 0 18 = h := sI_at _ _ _ _
theorem J18_j (σ : HS) (v : Int64) (h : Int32) : gJ (J18 σ v h) 0 17 = v := by
  show (if (0 : Nat) = 0 ∧ (17 : Nat) = 17 then v else gJ σ 0 17) = v
  exact if_pos ⟨rfl, rfl⟩
theorem J18_k {σ : HS} {v : Int64} {h : Int32} {m : Nat} (hm : m ≠ 18) : gI (J18 σ v h) 0 m = gI σ 0 m := sI_k hm
theorem J18_0 {σ : HS} {v : Int64} {h : Int32} (e : gI σ 0 18 = h) : sJ σ 0 17 v = J18 σ v h := (sI_self (σ := sJ σ 0 17 v) e).symm
theorem TpM_J18 {b : Nat → Nat} {sz t : Nat} {τ : HS} {v : Int64} {x : Int32} (h : TpM b sz t τ) : TpM b sz t (J18 τ v x) := TpM.sI (τ := sJ τ 0 17 v) (k := 18) (v := x) h (by omega)
def wv (g : Nat → Int32) (s : Nat) : Nat → Int64
  | 0 => 0
  | k + 1 => if 8 ≤ k then -1 else 27 * wv g s k + (g (s + k)).toInt64 - 96
theorem m_wordL {b : Nat → Nat} {sz t s : Nat} {τ : HS} (h : TpM b sz t τ) : ∀ (F m k : Nat), m < F → sz ≤ s + k + m → s + k + m ≤ 400 → ∃ j, c_X9_next1_107 F (nI k) (J18 τ (wv (gB b sz) s k) (nI (s + k))) = some (J18 τ (wv (gB b sz) s j) (nI (s + j))) ∧ s + j = rn pL (gB b sz) m (s + k) := by
  intro F
  induction F with
  | zero => intro m k h1; omega
  | succ F ih =>
    intro m k hF hm hp
    have h' : TpM b sz t (J18 τ (wv (gB b sz) s k) (nI (s + k))) := TpM_J18 h
    rw [c_X9_next1_107, J18_i, m_bat h' (by omega), bi2_s, m_isL, bi2_s, if10]
    by_cases c : pL (gB b sz (s + k)) = true
    · cases m with
      | zero => rw [pL_out _ (by omega)] at c; cases c
      | succ m =>
        obtain ⟨j, e1, e2⟩ := ih m (k + 1) (by omega) (by omega) (by omega)
        refine ⟨j, ?_, by rw [e2, rn, if_pos c]; rfl⟩
        rw [if_pos c, ← e1]
        have stp : ∀ v, c_X9_next1_163 (fun z0 z1 => c_X9_next1_107 F z0 z1) (nI k) v (J18 τ (wv (gB b sz) s k) (nI (s + k))) = c_X9_next1_107 F (nI (k + 1)) (J18 τ v (nI (s + (k + 1)))) := by
          intro v
          rw [c_X9_next1_163, lt_eqq]
          have z : gI (sJ (J18 τ (wv (gB b sz) s k) (nI (s + k))) 0 17 v) 0 18 = nI (s + k) := J18_i τ (0 : Int64) (nI (s + k))
          rw [lt_eqq, z, nI_1, nI_1]
          exact congrArg (c_X9_next1_107 F (nI (k + 1))) (J18_J18 τ _ v _ _)
        by_cases c8 : 8 ≤ k
        · rw [if_pos (by rw [show (8 : Int32) = nI 8 from rfl, nI_leI (by omega) (by omega)]; exact c8), stp, wv, if_pos c8]
        · rw [if_neg (by rw [show (8 : Int32) = nI 8 from rfl, nI_leI (by omega) (by omega)]; exact c8), J18_i, m_bat h' (by omega), bi2_s, J18_j, stp, wv, if_neg c8]
    · refine ⟨k, by rw [if_neg c], ?_⟩
      cases m with
      | zero => rw [rn]
      | succ m => rw [rn, if_neg c]
def nw (g : Nat → Int32) (s k : Nat) : Int64 := lN (nvN g s (min k 4))
theorem m_numL {b : Nat → Nat} {sz t s : Nat} {τ : HS} (h : TpM b sz t τ) : ∀ (F m k : Nat), m < F → sz ≤ s + k + m → s + k + m ≤ 400 → ∃ j, c_X9_next1_211 F (nI k) (J18 τ (nw (gB b sz) s k) (nI (s + k))) = c_X9_next1_286 (nI j) (J18 τ (nw (gB b sz) s j) (nI (s + j))) ∧ s + j = rn pD (gB b sz) m (s + k) := by
  intro F
  induction F with
  | zero => intro m k h1; omega
  | succ F ih =>
    intro m k hF hm hp
    have h' : TpM b sz t (J18 τ (nw (gB b sz) s k) (nI (s + k))) := TpM_J18 h
    rw [c_X9_next1_211, J18_i, m_bat h' (by omega), bi2_s, m_isD, bi2_s, if10]
    by_cases c : pD (gB b sz (s + k)) = true
    · cases m with
      | zero => rw [pD_out _ (by omega)] at c; cases c
      | succ m =>
        obtain ⟨j, e1, e2⟩ := ih m (k + 1) (by omega) (by omega) (by omega)
        refine ⟨j, ?_, by rw [e2, rn, if_pos c]; rfl⟩
        rw [if_pos c, ← e1]
        have stp : ∀ v, c_X9_next1_267 (fun z0 z1 => c_X9_next1_211 F z0 z1) (nI k) v (J18 τ (nw (gB b sz) s k) (nI (s + k))) = c_X9_next1_211 F (nI (k + 1)) (J18 τ v (nI (s + (k + 1)))) := by
          intro v
          rw [c_X9_next1_267, lt_eqq]
          have z : gI (sJ (J18 τ (nw (gB b sz) s k) (nI (s + k))) 0 17 v) 0 18 = nI (s + k) := J18_i τ (0 : Int64) (nI (s + k))
          rw [lt_eqq, z, nI_1, nI_1]
          exact congrArg (c_X9_next1_211 F (nI (k + 1))) (J18_J18 τ _ v _ _)
        by_cases c4 : 4 ≤ k
        · rw [if_pos (by rw [show (4 : Int32) = nI 4 from rfl, nI_leI (by omega) (by omega)]; exact c4), J18_j, stp, nw, nw, Nat.min_eq_right c4, Nat.min_eq_right (by omega)]
        · rw [if_neg (by rw [show (4 : Int32) = nI 4 from rfl, nI_leI (by omega) (by omega)]; exact c4), J18_i, m_bat h' (by omega), bi2_s, J18_j, stp]
          have e3 : 10 * nw (gB b sz) s k + (gB b sz (s + k)).toInt64 - 48 = nw (gB b sz) s (k + 1) := by
            obtain ⟨d, hd, e⟩ := gB_D h.1.2 c
            rw [nw, nw, Nat.min_eq_left (by omega), Nat.min_eq_left (by omega), nvN, e, ix_nI (by omega), nI_l (by omega), show (10 : Int64) = lN 10 from rfl, lN_mul, lN_add, show (48 : Int64) = lN 48 from rfl, lN_sub (by omega)]
            exact congrArg lN (by omega)
          rw [e3]
    · refine ⟨k, by rw [if_neg c], ?_⟩
      cases m with
      | zero => rw [rn]
      | succ m => rw [rn, if_neg c]
/-! words by their numbers -/
def VN (d : Nat → Nat) : Nat → Nat
  | 0 => 0
  | k + 1 => 27 * VN d k + d k
theorem VN_lt {d : Nat → Nat} : ∀ k, (∀ i, i < k → d i ≤ 26) → VN d k < 27 ^ k := by
  intro k
  induction k with
  | zero => intro _; exact Nat.zero_lt_one
  | succ k ih =>
    intro h
    have := ih fun i hi => h i (by omega)
    have h2 := h k (by omega)
    rw [VN, Nat.pow_succ]
    omega
theorem VN_inj {d c : Nat → Nat} : ∀ n m, (∀ i, i < n → 1 ≤ d i ∧ d i ≤ 26) → (∀ i, i < m → 1 ≤ c i ∧ c i ≤ 26) → VN d n = VN c m → n = m ∧ ∀ i, i < n → d i = c i := by
  intro n
  induction n with
  | zero =>
    intro m _ hc e
    cases m with
    | zero => exact ⟨rfl, fun i hi => by omega⟩
    | succ m =>
      have := hc m (by omega)
      rw [VN, VN] at e
      omega
  | succ n ih =>
    intro m hd hc e
    have h1 := hd n (by omega)
    cases m with
    | zero => rw [VN, VN] at e; omega
    | succ m =>
      have h2 := hc m (by omega)
      rw [VN, VN] at e
      obtain ⟨e1, e2⟩ := ih m (fun i hi => hd i (by omega)) (fun i hi => hc i (by omega)) (by omega)
      refine ⟨by omega, fun i hi => ?_⟩
      by_cases q : i = n
      · rw [q, show d n = c m by omega, e1]
      · exact e2 i (by omega)
def dw (w i : Nat) : Nat := ix (sCh w i) - 96
theorem dw_ok {w i : Nat} (hw : w < 12) (hi : i < xLen.getD w 0) : 1 ≤ dw w i ∧ dw w i ≤ 26 ∧ sCh w i = nI (96 + dw w i) := by
  have h7 := xL_le hw
  exact (by decide +kernel : ∀ w, w < 12 → ∀ i, i < 7 → i < xLen.getD w 0 → 1 ≤ dw w i ∧ dw w i ≤ 26 ∧ sCh w i = nI (96 + dw w i)) w hw i (by omega) hi
def Ww (w : Nat) : Int64 := lN (VN (dw w) (xLen.getD w 0))
theorem lN_big {a c : Nat} (ha : a < 2 ^ 63) (hc : c < 2 ^ 63) (h : lN a = lN c) : a = c := by
  have h1 : (Int64.ofNat a).toInt = (Int64.ofNat c).toInt := congrArg Int64.toInt h
  rw [lg_ofNat_toInt ha, lg_ofNat_toInt hc] at h1
  omega
theorem p27 {k : Nat} (h : k ≤ 8) : 27 ^ k ≤ 27 ^ 8 := Nat.pow_le_pow_right (by omega) h
theorem wv_N {b : Nat → Nat} {sz s : Nat} (hb : ∀ k, k < sz → b k < 256) : ∀ k, k ≤ 8 → (∀ i, i < k → pL (gB b sz (s + i)) = true) → wv (gB b sz) s k = lN (VN (fun i => ix (gB b sz (s + i)) - 96) k) := by
  intro k
  induction k with
  | zero => intro _ _; rfl
  | succ k ih =>
    intro hk hl
    obtain ⟨d, _, hd, e⟩ := gB_L hb (hl k (by omega))
    rw [wv, if_neg (by omega), ih (by omega) (fun i hi => hl i (by omega)), VN, e, ix_nI (by omega), nI_l (by omega), show (27 : Int64) = lN 27 from rfl, lN_mul, lN_add, show (96 : Int64) = lN 96 from rfl, lN_sub (by omega)]
    exact congrArg lN (by omega)
theorem lN_neg {a : Nat} (ha : a < 2 ^ 63) : lN a ≠ -1 := by
  intro h
  have h1 : (Int64.ofNat a).toInt = (-1 : Int64).toInt := congrArg Int64.toInt h
  rw [lg_ofNat_toInt ha, show (-1 : Int64).toInt = -1 by decide] at h1
  omega
theorem Ww_lt {w : Nat} (hw : w < 12) : VN (dw w) (xLen.getD w 0) < 2 ^ 63 := by
  have h1 := VN_lt (d := dw w) (xLen.getD w 0) fun i hi => (dw_ok hw hi).2.1
  have h2 := p27 (k := xLen.getD w 0) (by have := xL_le hw; omega)
  have h3 : (27 : Nat) ^ 8 < 2 ^ 63 := by decide
  omega
/-- the reference's number of a word is that of a key or name just if the letters are -/
theorem wv_is {b : Nat → Nat} {sz s n w : Nat} (hb : ∀ k, k < sz → b k < 256) (hw : w < 12) (hl : ∀ i, i < n → pL (gB b sz (s + i)) = true) : (wv (gB b sz) s n = Ww w) ↔ wis (gB b sz) s (s + n) w = true := by
  have h7 := xL_le hw
  have hd : ∀ i, i < n → 1 ≤ ix (gB b sz (s + i)) - 96 ∧ ix (gB b sz (s + i)) - 96 ≤ 26 ∧ gB b sz (s + i) = nI (96 + (ix (gB b sz (s + i)) - 96)) := by
    intro i hi
    obtain ⟨d, h1, h2, e⟩ := gB_L hb (hl i hi)
    rw [e, ix_nI (by omega)]
    exact ⟨by omega, by omega, congrArg nI (by omega)⟩
  rw [wis, show s + n - s = n by omega]
  constructor
  · intro e
    by_cases c : 8 < n
    · obtain ⟨k, rfl⟩ : ∃ k, n = k + 1 := ⟨n - 1, by omega⟩
      rw [wv, if_pos (by omega)] at e
      exact absurd e.symm (lN_neg (Ww_lt hw))
    · rw [wv_N hb n (by omega) hl] at e
      have h1 := VN_lt (d := fun i => ix (gB b sz (s + i)) - 96) n fun i hi => (hd i hi).2.1
      have h2 := p27 (k := n) (by omega)
      have h3 : (27 : Nat) ^ 8 < 2 ^ 63 := by decide
      obtain ⟨e1, e2⟩ := VN_inj (d := fun i => ix (gB b sz (s + i)) - 96) (c := dw w) n (xLen.getD w 0) (fun i hi => ⟨(hd i hi).1, (hd i hi).2.1⟩) (fun i hi => ⟨(dw_ok hw hi).1, (dw_ok hw hi).2.1⟩) (lN_big (by omega) (Ww_lt hw) e)
      rw [if_pos e1.symm]
      refine wmt_of _ 0 fun i _ hi => ?_
      have e3 : ix (gB b sz (s + i)) - 96 = dw w i := e2 i (by omega)
      rw [(dw_ok hw (by omega)).2.2, (hd i (by omega)).2.2, e3]
  · intro h
    by_cases c : xLen.getD w 0 = n
    · rw [if_pos c] at h
      have hm := wmt_all _ 0 h
      rw [wv_N hb n (by omega) hl, Ww, c]
      refine congrArg lN ?_
      have : ∀ k, k ≤ n → VN (fun i => ix (gB b sz (s + i)) - 96) k = VN (dw w) k := by
        intro k
        induction k with
        | zero => intro _; rw [VN, VN]
        | succ k ih =>
          intro hk
          have e3 : ix (gB b sz (s + k)) - 96 = dw w k := by rw [dw, hm k (by omega) (by omega)]
          show 27 * VN _ k + (ix (gB b sz (s + k)) - 96) = 27 * VN (dw w) k + dw w k
          rw [ih (by omega), e3]
      exact this n (Nat.le_refl _)
    · rw [if_neg c] at h; cases h
/-! the token that stands there, by the reference -/
def sgC (s : Nat) : Nat := 10012 + s
def sgB (s : Nat) : Int32 := ([40, 41, 59, 43, 45, 42, 60, 61] : List Int32).getD s 0
def KW (c : Nat) (τ : HS) : Prop := (c = 10021 ∧ gI τ 0 15 = 0) ∨ (∃ w, w < 12 ∧ c = 10000 + w ∧ gI τ 0 15 = 1 ∧ gJ τ 0 17 = Ww w) ∨ (c < 10000 ∧ gI τ 0 15 = 2 ∧ gJ τ 0 17 = lN c) ∨ (∃ s, s < 8 ∧ c = sgC s ∧ gI τ 0 15 = 3 ∧ gJ τ 0 17 = (sgB s).toInt64) ∨ (c = 10022 ∧ (gI τ 0 15 = 4 ∨ (gI τ 0 15 = 1 ∧ ∀ w, w < 12 → gJ τ 0 17 ≠ Ww w)))
def PM (g : Nat → Int32) (p : Nat) (τ : HS) : Prop := gI τ 0 16 = nI (st g p) ∧ KW (cd g p) τ ∧ (cd g p ≠ 10022 → gI τ 0 18 = nI (en g p))
def SN (i k : Nat) : Prop := i = 0 ∧ 15 ≤ k ∧ k ≤ 18
theorem Ww_inj : ∀ w, w < 12 → ∀ v, v < 12 → Ww w = Ww v → w = v := by decide +kernel
theorem sgB_inj : ∀ w, w < 8 → ∀ v, v < 8 → (sgB w).toInt64 = (sgB v).toInt64 → w = v := by decide +kernel
theorem i01 : ¬ (0 : Int32) = 1 := by decide
theorem i21 : ¬ (2 : Int32) = 1 := by decide
theorem i31 : ¬ (3 : Int32) = 1 := by decide
theorem i41 : ¬ (4 : Int32) = 1 := by decide
theorem i03 : ¬ (0 : Int32) = 3 := by decide
theorem i13 : ¬ (1 : Int32) = 3 := by decide
theorem i23 : ¬ (2 : Int32) = 3 := by decide
theorem i43 : ¬ (4 : Int32) = 3 := by decide
/-- `isWord` by the reference -/
theorem m_isWord {c w : Nat} {τ : HS} (h : KW c τ) (hb : gI τ 0 20 = 0) (hw : w < 12) : c_X9_isWord (Ww w) τ = some (tf (decide (c = 10000 + w)), τ) := by
  rw [c_X9_isWord, if_pos hb]
  rcases h with ⟨hc, h⟩ | ⟨v, hv, hc, h, hJ⟩ | ⟨hc, h, hJ⟩ | ⟨v, hv, hc, h, hJ⟩ | ⟨hc, h | ⟨h, hJ⟩⟩
  · rw [h, if_neg i01, decide_eq_false (by omega)]; rfl
  · rw [h, if_pos rfl, hJ]
    by_cases e : v = w
    · rw [if_pos ((lg_cmp_eq _ _).mpr (by rw [e])), decide_eq_true (by omega)]; rfl
    · rw [if_neg (fun z => e (Ww_inj v hv w hw ((lg_cmp_eq _ _).mp z))), decide_eq_false (by omega)]; rfl
  · rw [h, if_neg i21, decide_eq_false (by omega)]; rfl
  · rw [h, if_neg i31, decide_eq_false (by rw [hc, sgC]; omega)]; rfl
  · rw [h, if_neg i41, decide_eq_false (by omega)]; rfl
  · rw [h, if_pos rfl, if_neg (fun z => hJ w hw ((lg_cmp_eq _ _).mp z)), decide_eq_false (by omega)]; rfl
theorem m_isSign {c w : Nat} {τ : HS} (h : KW c τ) (hb : gI τ 0 20 = 0) (hw : w < 8) : c_X9_isSign (sgB w) τ = some (tf (decide (c = 10012 + w)), τ) := by
  rw [c_X9_isSign, if_pos hb]
  rcases h with ⟨hc, h⟩ | ⟨v, hv, hc, h, hJ⟩ | ⟨hc, h, hJ⟩ | ⟨v, hv, hc, h, hJ⟩ | ⟨hc, h | ⟨h, hJ⟩⟩
  · rw [h, if_neg i03, decide_eq_false (by omega)]; rfl
  · rw [h, if_neg i13, decide_eq_false (by omega)]; rfl
  · rw [h, if_neg i23, decide_eq_false (by omega)]; rfl
  · rw [h, if_pos rfl, hJ]
    rw [sgC] at hc
    by_cases e : v = w
    · rw [if_pos ((lg_cmp_eq _ _).mpr (by rw [e])), decide_eq_true (by omega)]; rfl
    · rw [if_neg (fun z => e (sgB_inj v hv w hw ((lg_cmp_eq _ _).mp z))), decide_eq_false (by omega)]; rfl
  · rw [h, if_neg i43, decide_eq_false (by omega)]; rfl
  · rw [h, if_neg i13, decide_eq_false (by omega)]; rfl
theorem bad_isWord {v : Int64} {τ : HS} (hb : gI τ 0 20 = 1) : c_X9_isWord v τ = some (0, τ) := by rw [c_X9_isWord, if_neg (by rw [hb]; exact one_ne)]
theorem bad_isSign {v : Int32} {τ : HS} (hb : gI τ 0 20 = 1) : c_X9_isSign v τ = some (0, τ) := by rw [c_X9_isSign, if_neg (by rw [hb]; exact one_ne)]
theorem m_351 {τ : HS} (x : Int32) : c_X9_next1_351 x τ = some (sI (sJ (sI τ 0 15 3) 0 17 x.toInt64) 0 18 (gI τ 0 18 + 1)) := rfl
theorem sgc_cases (x : Int32) : (∃ s, s < 8 ∧ sgc x = sgC s ∧ x = sgB s) ∨ (sgc x = 10022 ∧ ¬ x = 40 ∧ ¬ x = 41 ∧ ¬ x = 59 ∧ ¬ x = 43 ∧ ¬ x = 45 ∧ ¬ x = 42 ∧ ¬ x = 60 ∧ ¬ x = 61) := by
  rw [sgc]
  by_cases c40 : x = 40
  · exact Or.inl ⟨0, by omega, by rw [if_pos c40]; rfl, c40⟩
  rw [if_neg c40]
  by_cases c41 : x = 41
  · exact Or.inl ⟨1, by omega, by rw [if_pos c41]; rfl, c41⟩
  rw [if_neg c41]
  by_cases c42 : x = 42
  · exact Or.inl ⟨5, by omega, by rw [if_pos c42]; rfl, c42⟩
  rw [if_neg c42]
  by_cases c43 : x = 43
  · exact Or.inl ⟨3, by omega, by rw [if_pos c43]; rfl, c43⟩
  rw [if_neg c43]
  by_cases c45 : x = 45
  · exact Or.inl ⟨4, by omega, by rw [if_pos c45]; rfl, c45⟩
  rw [if_neg c45]
  by_cases c59 : x = 59
  · exact Or.inl ⟨2, by omega, by rw [if_pos c59]; rfl, c59⟩
  rw [if_neg c59]
  by_cases c60 : x = 60
  · exact Or.inl ⟨6, by omega, by rw [if_pos c60]; rfl, c60⟩
  rw [if_neg c60]
  by_cases c61 : x = 61
  · exact Or.inl ⟨7, by omega, by rw [if_pos c61]; rfl, c61⟩
  rw [if_neg c61]
  exact Or.inr ⟨rfl, c40, c41, c59, c43, c45, c42, c60, c61⟩
theorem m_sg (σ : HS) : ∀ s, s < 8 → ∀ (A B : Option HS), (if sgB s = 40 then A else if sgB s = 41 then A else if sgB s = 59 then A else if sgB s = 43 then A else if sgB s = 45 then A else if sgB s = 42 then A else if sgB s = 60 then A else if sgB s = 61 then A else B) = A := by
  intro s hs A B
  have : s = 0 ∨ s = 1 ∨ s = 2 ∨ s = 3 ∨ s = 4 ∨ s = 5 ∨ s = 6 ∨ s = 7 := by omega
  rcases this with rfl | rfl | rfl | rfl | rfl | rfl | rfl | rfl <;> rfl
theorem Off.J18 {S : Nat → Nat → Prop} {σ : HS} {v : Int64} {h : Int32} (h7 : S 0 17) (h8 : S 0 18) : Off S σ (J18 σ v h) := (Off.sJ h7).tr (Off.sI h8)
theorem m_39 {b : Nat → Nat} {sz t s : Nat} {τ : HS} (h : TpM b sz t τ) (hs : gI τ 0 18 = nI s) (hsz : s ≤ sz) (he : gB b sz s = -1 → s = sz) : ∃ τ', c_X9_next1_39 τ = some τ' ∧ gI τ' 0 16 = nI s ∧ KW (cdS (gB b sz) s) τ' ∧ (cdS (gB b sz) s ≠ 10022 → gI τ' 0 18 = nI (enS (gB b sz) s)) ∧ Off SN τ τ' := by
  have hz := h.1.1
  have S15 : SN 0 15 := ⟨rfl, by omega, by omega⟩
  have S16 : SN 0 16 := ⟨rfl, by omega, by omega⟩
  have S17 : SN 0 17 := ⟨rfl, by omega, by omega⟩
  have S18 : SN 0 18 := ⟨rfl, by omega, by omega⟩
  have h1 : TpM b sz t (sI τ 0 16 (nI s)) := h.sI (by omega)
  have h2 : ∀ v, TpM b sz t (sI (sI τ 0 16 (nI s)) 0 15 v) := fun v => h1.sI (by omega)
  have o1 : ∀ v, Off SN τ (sI (sI τ 0 16 (nI s)) 0 15 v) := fun v => (Off.sI S16).tr (Off.sI S15)
  rw [c_X9_next1_39, hs, lt_eqq, sI_k (by omega), hs, m_bat h1 (by omega), bi2_s, lt_eqq]
  by_cases c : gB b sz s = -1
  · rw [c, if_neg (by decide), lt_eqq, lt_eqq, sI_sI]
    have e18 : gI (sI (sI (sI τ 0 16 (nI s)) 0 15 0) 0 16 (gI (sI (sI τ 0 16 (nI s)) 0 15 0) 0 14)) 0 18 = nI s := by
      rw [sI_k (by omega), sI_k (by omega), sI_k (by omega)]; exact hs
    refine ⟨_, rfl, ?_, Or.inl ⟨by rw [cdS, if_pos c], ?_⟩, fun _ => ?_, (o1 0).tr (Off.sI S16)⟩
    · rw [sI_at, sI_k (by omega), sI_k (by omega), h.2.2.2.1, he c]
    · rw [sI_k (by omega), sI_at]
    · rw [e18, enS, if_pos c]
  have cp : s < sz := by
    by_cases z : s < sz
    · exact z
    · exact absurd (gB_out (by omega)) c
  have gs : gB b sz s = nI (b s) := if_pos cp
  have hb := h.1.2 s cp
  rw [if_pos (by rw [gs]; exact nI_pos' (by omega)), m_isL, bi2_s, if10]
  by_cases c2 : pL (gB b sz s) = true
  · rw [if_pos c2, lt_eqq, lt_eqq, sI_sI]
    have e18 : gI (sI (sI τ 0 16 (nI s)) 0 15 1) 0 18 = nI s := by rw [sI_k (by omega), sI_k (by omega)]; exact hs
    obtain ⟨j, e1, e2⟩ := m_wordL (s := s) (h2 1) FU 160 0 (by rw [FU]; omega) (by omega) (by omega)
    rw [Nat.add_zero] at e1 e2
    rw [J18_0 e18, show c_X9_next1_107 FU 0 (J18 (sI (sI τ 0 16 (nI s)) 0 15 1) 0 (nI s)) = _ from e1]
    have hl : ∀ i, i < j → pL (gB b sz (s + i)) = true := fun i hi => rn_in 160 s (s + i) (by omega) (by omega)
    have hcd : cdS (gB b sz) s = wcd (gB b sz) s (s + j) := by rw [cdS, if_neg c, if_pos c2, ← e2]
    refine ⟨_, rfl, ?_, ?_, fun _ => ?_, (o1 1).tr (Off.J18 S17 S18)⟩
    · rw [J18_k (by omega), sI_k (by omega), sI_at]
    · have k15 : gI (J18 (sI (sI τ 0 16 (nI s)) 0 15 1) (wv (gB b sz) s j) (nI (s + j))) 0 15 = 1 := by rw [J18_k (by omega), sI_at]
      rcases wcd_cases (gB b sz) s (s + j) with ⟨w, hw, hc, hi⟩ | ⟨hc, hi⟩
      · refine Or.inr (Or.inl ⟨w, hw, by rw [hcd, hc], k15, ?_⟩)
        rw [J18_j]; exact (wv_is h.1.2 hw hl).mpr hi
      · refine Or.inr (Or.inr (Or.inr (Or.inr ⟨by rw [hcd, hc], Or.inr ⟨k15, fun w hw => ?_⟩⟩)))
        rw [J18_j]
        intro z
        have := (wv_is h.1.2 hw hl).mp z
        rw [hi w hw] at this
        cases this
    · rw [J18_i, enS, if_neg c, if_pos c2, e2]
  rw [if_neg c2, m_isD, bi2_s, if10]
  by_cases c3 : pD (gB b sz s) = true
  · rw [if_pos c3, lt_eqq, lt_eqq, sI_sI]
    have e18 : gI (sI (sI τ 0 16 (nI s)) 0 15 2) 0 18 = nI s := by rw [sI_k (by omega), sI_k (by omega)]; exact hs
    obtain ⟨j, e1, e2⟩ := m_numL (s := s) (h2 2) FU 160 0 (by rw [FU]; omega) (by omega) (by omega)
    rw [Nat.add_zero] at e1 e2
    rw [J18_0 e18, show c_X9_next1_211 FU 0 (J18 (sI (sI τ 0 16 (nI s)) 0 15 2) 0 (nI s)) = _ from e1]
    have hj : j ≤ 160 := by have := rn_sz (g := gB b sz) pD_out 160 s hsz; omega
    have hl : ∀ i, i < j → pD (gB b sz (s + i)) = true := fun i hi => rn_in 160 s (s + i) (by omega) (by omega)
    have hcd : cdS (gB b sz) s = ncd (gB b sz) s (s + j) := by rw [cdS, if_neg c, if_neg c2, if_pos c3, ← e2]
    rw [ncd, show s + j - s = j by omega] at hcd
    rw [c_X9_next1_286, show (4 : Int32) = nI 4 from rfl]
    by_cases c4 : j ≤ 4
    · have hv : ∀ k, k ≤ j → nvN (gB b sz) s k < 10 ^ k := by
        intro k
        induction k with
        | zero => intro _; exact Nat.zero_lt_one
        | succ k ih =>
          intro hk
          have := ih (by omega)
          obtain ⟨d, hd, e⟩ := gB_D h.1.2 (hl k (by omega))
          rw [nvN, e, ix_nI (by omega), Nat.pow_succ]
          omega
      have h4 : (10 : Nat) ^ j ≤ 10 ^ 4 := Nat.pow_le_pow_right (by omega) c4
      have hv := hv j (Nat.le_refl _)
      rw [if_pos ((nI_leI (by omega) (by omega)).mpr c4), lt_eqq]
      refine ⟨_, rfl, ?_, Or.inr (Or.inr (Or.inl ⟨?_, ?_, ?_⟩)), fun _ => ?_, ((o1 2).tr (Off.J18 S17 S18)).tr (Off.sI S15)⟩
      · rw [sI_k (by omega), J18_k (by omega), sI_k (by omega), sI_at]
      · rw [hcd, if_pos c4]; omega
      · rw [sI_at]
      · rw [hcd, if_pos c4]
        show gJ (J18 (sI (sI τ 0 16 (nI s)) 0 15 2) (nw (gB b sz) s j) (nI (s + j))) 0 17 = _
        rw [J18_j, nw, Nat.min_eq_left c4]
      · rw [sI_k (by omega), J18_i, enS, if_neg c, if_neg c2, if_pos c3, e2]
    · rw [if_neg (fun z => c4 ((nI_leI (by omega) (by omega)).mp z)), lt_eqq]
      refine ⟨_, rfl, ?_, Or.inr (Or.inr (Or.inr (Or.inr ⟨?_, Or.inl ?_⟩))), fun _ => ?_, ((o1 2).tr (Off.J18 S17 S18)).tr (Off.sI S15)⟩
      · rw [sI_k (by omega), J18_k (by omega), sI_k (by omega), sI_at]
      · rw [hcd, if_neg c4]
      · rw [sI_at]; rfl
      · rw [sI_k (by omega), J18_i, enS, if_neg c, if_neg c2, if_pos c3, e2]
  rw [if_neg c3]
  have hcd : cdS (gB b sz) s = sgc (gB b sz s) := by rw [cdS, if_neg c, if_neg c2, if_neg c3]
  rcases sgc_cases (gB b sz s) with ⟨w, hw, hc, hx⟩ | ⟨hc, n1, n2, n3, n4, n5, n6, n7, n8⟩
  · rw [hx, m_sg τ w hw, m_351]
    refine ⟨_, rfl, ?_, Or.inr (Or.inr (Or.inr (Or.inl ⟨w, hw, by rw [hcd, hc], ?_, ?_⟩))), fun _ => ?_, (o1 4).tr ((Off.sI S15).tr ((Off.sJ S17).tr (Off.sI S18)))⟩
    · rw [sI_k (by omega)]
      show gI (sI (sI (sI τ 0 16 (nI s)) 0 15 4) 0 15 3) 0 16 = nI s
      rw [sI_k (by omega), sI_k (by omega), sI_at]
    · rw [sI_k (by omega)]
      show gI (sI (sI (sI τ 0 16 (nI s)) 0 15 4) 0 15 3) 0 15 = 3
      exact sI_at _ _ _ _
    · show (if (0 : Nat) = 0 ∧ (17 : Nat) = 17 then (sgB w).toInt64 else gJ (sI (sI (sI τ 0 16 (nI s)) 0 15 4) 0 15 3) 0 17) = (sgB w).toInt64
      exact if_pos ⟨rfl, rfl⟩
    · rw [sI_at, sI_k (by omega), sI_k (by omega), hs, nI_1, enS, if_neg c, if_neg c2, if_neg c3]
  · rw [if_neg n1, if_neg n2, if_neg n3, if_neg n4, if_neg n5, if_neg n6, if_neg n7, if_neg n8]
    refine ⟨_, rfl, ?_, Or.inr (Or.inr (Or.inr (Or.inr ⟨by rw [hcd, hc], Or.inl ?_⟩))), fun z => absurd (hcd.trans hc) z, o1 4⟩
    · rw [sI_k (by omega), sI_at]
    · rw [sI_at]
theorem m_next1 {b : Nat → Nat} {sz t p : Nat} {τ : HS} (h : TpM b sz t τ) (hp : gI τ 0 18 = nI p) (hsz : p ≤ sz) : ∃ τ', c_X9_next1 τ = some τ' ∧ PM (gB b sz) p τ' ∧ Off SN τ τ' := by
  have hz := h.1.1
  have W := m_blankL h FU 160 p (by rw [FU]; omega) (by omega) (by omega)
  rw [sI_self hp] at W
  obtain ⟨τ', e, h1, h2, h3, h4⟩ := m_39 (s := st (gB b sz) p) (TpM.sI (k := 18) (v := nI (st (gB b sz) p)) h (by omega)) (sI_at _ _ _ _) (st_le hsz) (fun z => by
    have h5 := st_le (b := b) hsz
    by_cases c : st (gB b sz) p = sz
    · exact c
    · exfalso
      rw [gB, if_pos (by omega)] at z
      exact nI_neg (by have := h.1.2 (st (gB b sz) p) (by omega); omega) z)
  refine ⟨τ', ?_, ⟨h1, h2, h3⟩, (Off.sI ⟨rfl, by omega, by omega⟩).tr h4⟩
  rw [c_X9_next1, W]
  exact e
