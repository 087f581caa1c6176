/-! HOW A MAN GOES -/
theorem bi2_s {α γ : Type} (a : α) (s : HS) (f : α → HS → Option γ) : bi2 (some (a, s)) f = f a s := rfl
theorem bi1_s {γ : Type} (s : HS) (f : HS → Option γ) : bi1 (some s) f = f s := rfl
theorem irm_nI {a n : Nat} (ha : a < 40) (h0 : 0 < n) (hn : n ≤ 12) : irm (nI a) (nI n) = nI (a % n) := by
  have : ∀ a, a < 40 → ∀ n, n < 13 → 0 < n → irm (nI a) (nI n) = nI (a % n) := by decide +kernel
  exact this a ha n (by omega) h0
def nx (kd vn : Int32) (n : Nat) (f : Nat → Int32) (b : Nat) (lk : Int32) : Int32 :=
  if kd = 2 then (if f b = -1 then irm (nI b + 1) (nI n) else f b)
  else if kd = 3 then (if f b = -1 then irm (nI b + 1) (nI n) else irm (f b + vn) (nI n))
  else if kd = 4 then (if f b = -1 then irm (nI b + 1) (nI n) else if lk = vn then irm (nI b + 1) (nI n) else f b)
  else if kd = 5 then irm (nI b + nI n - 1) (nI n) else irm (nI b + 1) (nI n)
def fb (kd vn : Int32) (n m : Nat) : Int32 := if kd = 0 then 0 else if kd = 2 then nI m else if kd = 4 then nI m else irm (nI m + vn) (nI n)
theorem irm_v {a n : Nat} (ha : a < 40) (h0 : 0 < n) (hn : n ≤ 12) : ∃ v, v < n ∧ irm (nI a) (nI n) = nI v := ⟨a % n, Nat.mod_lt _ h0, irm_nI ha h0 hn⟩
theorem nx_v {kd lk : Int32} {w n b : Nat} {f : Nat → Int32} (hn : n ≤ 12) (hb : b < n) (hf : VL n f) (hw : w ≤ 11) : ∃ v, v < n ∧ nx kd (nI w) n f b lk = nI v := by
  have h1 : ∃ v, v < n ∧ irm (nI b + 1) (nI n) = nI v := by rw [nI_1]; exact irm_v (by omega) (by omega) hn
  have h2 : f b ≠ -1 → ∃ v, v < n ∧ f b = nI v := fun h => by
    rcases hf b hb with h' | h'
    · exact absurd h' h
    · exact h'
  rw [nx]
  split
  · split
    · exact h1
    · exact h2 (by assumption)
  · split
    · split
      · exact h1
      · obtain ⟨v, hv, e⟩ := h2 (by assumption)
        rw [e, nI_add]
        exact irm_v (by omega) (by omega) hn
    · split
      · split
        · exact h1
        · split
          · exact h1
          · exact h2 (by assumption)
      · split
        · rw [nI_add, show b + n = (b + n - 1) + 1 by omega, nI_pred]
          exact irm_v (by omega) (by omega) hn
        · exact h1
theorem fb_v {kd : Int32} {w n m : Nat} (hn : n ≤ 12) (hm : m < n) (hw : w ≤ 11) : ∃ v, v < n ∧ fb kd (nI w) n m = nI v := by
  rw [fb]
  split
  · exact ⟨0, by omega, nI_0.symm⟩
  · split
    · exact ⟨m, hm, rfl⟩
    · split
      · exact ⟨m, hm, rfl⟩
      · rw [nI_add]
        exact irm_v (by omega) (by omega) hn
theorem x_first {i0 n m q : Nat} {σ : HS} (h0 : 0 < n) (hn : n ≤ 12) (hq : q ≤ 5) (hk : gI σ i0 0 = nI q) : c_X1_firstBox i0 (nI m) (nI n) σ = some (fb (nI q) (gI σ i0 1) n m, σ) := by
  have hz : nI n ≠ 0 := by
    intro e
    rw [← nI_0] at e
    have := nI_inj (by omega) (by omega) e
    omega
  rw [c_X1_firstBox, hk, if_pos (by rw [show (1 : Int32) = nI 1 from rfl, nI_leI (by omega) (by omega)]; omega), if_neg hz]
  rcases (show q = 0 ∨ q = 1 ∨ q = 2 ∨ q = 3 ∨ q = 4 ∨ q = 5 by omega) with rfl | rfl | rfl | rfl | rfl | rfl <;> rfl
theorem m_first {n m : Nat} {kd vn : Int32} {σ : HS} (h0 : 0 < n) (hn : n ≤ 12) (hs : gI σ 0 8 = nI n) : c_X9_firstBy kd vn (nI m) σ = some (fb kd vn n m, σ) := by
  have hz : nI n ≠ 0 := by
    intro e
    rw [← nI_0] at e
    have := nI_inj (by omega) (by omega) e
    omega
  rw [c_X9_firstBy, hs, if_neg hz, fb]
  split
  · rfl
  · split
    · rfl
    · split <;> rfl
theorem x_behind {i0 n b q : Nat} {lk : Int32} {f : Nat → Int32} {σ : HS} (h0 : 0 < n) (hn : n ≤ 12) (hq : q ≤ 5) (hk : gI σ i0 0 = nI q) : c_X1_boxBehind i0 (nI b) (f b) lk (nI n) σ = some (nx (nI q) (gI σ i0 1) n f b lk, σ) := by
  have hz : nI n ≠ 0 := by
    intro e
    rw [← nI_0] at e
    have := nI_inj (by omega) (by omega) e
    omega
  rw [c_X1_boxBehind, hk, if_pos (by rw [show (1 : Int32) = nI 1 from rfl, nI_leI (by omega) (by omega)]; omega), if_neg hz, if_neg hz, nx]
  repeat' split
  all_goals rfl
theorem m_next {n b : Nat} {kd vn lk : Int32} {σ : HS} (h0 : 0 < n) (hn : n ≤ 12) (hb : b < n) (hs : gI σ 0 8 = nI n) : c_X9_nextBy kd vn (nI b) lk σ = some (nx kd vn n (gI σ 4) b lk, σ) := by
  have hz : nI n ≠ 0 := by
    intro e
    rw [← nI_0] at e
    have := nI_inj (by omega) (by omega) e
    omega
  rw [c_X9_nextBy, hs, if_neg hz, if_pos (inb_nI (by omega) (by omega)), if_neg hz, ix_nI (by omega), nx]
  repeat' split
  all_goals rfl
/-- in the how maniest look -/
def lk (kd vn : Int32) (n : Nat) (f : Nat → Int32) (man : Nat) : Nat → Int32 → Nat → Nat
  | 0, _, _ => 0
  | m + 1, p, k => if f (ix p) = nI man then k else lk kd vn n f man m (nx kd vn n f (ix p) (nI k)) (k + 1)
theorem x_findsL {i0 i1 n man most q w : Nat} {σ : HS} (h0 : 0 < n) (hn : n ≤ 12) (hm : most ≤ 12) (hq : q ≤ 5) (hw : w ≤ 11) (hk : gI σ i0 0 = nI q) (hv : gI σ i0 1 = nI w) (hs : gI σ i1 1 = nI n) (hf : VL n (gI σ (i1 + 1))) : ∀ (F m : Nat) (p k : Nat), p < n → m < F → k + m = most + 1 → c_X1_lookThatFinds_18 F i0 i1 (nI man) (nI most) (nI n) (nI p) (nI k) σ = some (nI (lk (nI q) (nI w) n (gI σ (i1 + 1)) man m (nI p) k), σ) := by
  intro F
  induction F with
  | zero => intro m p k hp hm; omega
  | succ F ih =>
    intro m p k hp hmF hk2
    rw [c_X1_lookThatFinds_18]
    cases m with
    | zero => rw [if_pos (by rw [nI_ltI (by omega) (by omega)]; omega), lk, nI_0]
    | succ m =>
      rw [if_neg (by rw [nI_ltI (by omega) (by omega)]; omega), x_at hs hn (Or.inr ⟨p, hp, rfl⟩), af_nI (by omega), lk, ix_nI (by omega)]
      show (if gI σ (i1 + 1) p = nI man then some (nI k, σ) else _) = _
      by_cases c : gI σ (i1 + 1) p = nI man
      · rw [if_pos c, if_pos c]
      · rw [if_neg c, if_neg c, x_behind h0 hn hq hk, hv]
        obtain ⟨v, hv2, e⟩ := nx_v (kd := nI q) (lk := nI k) hn hp hf hw
        rw [e]
        show c_X1_lookThatFinds_18 F i0 i1 (nI man) (nI most) (nI n) (nI v) (nI k + 1) σ = _
        rw [nI_1]
        exact ih m v (k + 1) hv2 (by omega) (by omega)
def lkA (kd vn : Int32) (n : Nat) (f : Nat → Int32) (man most : Nat) : Nat := lk kd vn n f man most (fb kd vn n man) 1
theorem x_finds {i0 i1 n man most q w : Nat} {σ : HS} (hn : n ≤ 12) (hm : most ≤ 12) (hmn : man < n) (hq : q ≤ 5) (hw : w ≤ 11) (hk : gI σ i0 0 = nI q) (hv : gI σ i0 1 = nI w) (hs : gI σ i1 1 = nI n) (hf : VL n (gI σ (i1 + 1))) : c_X1_lookThatFinds i0 i1 (nI man) (nI most) σ = some (nI (lkA (nI q) (nI w) n (gI σ (i1 + 1)) man most), σ) := by
  rw [c_X1_lookThatFinds, hs, x_first (by omega) hn hq hk, hv]
  obtain ⟨v, hv2, e⟩ := fb_v (kd := nI q) hn hmn hw
  rw [lkA, e]
  have h := x_findsL (man := man) (by omega) hn hm hq hw hk hv hs hf FU most v 1 hv2 (by rw [FU]; omega) (by omega)
  rw [bi2_s]
  exact h
theorem lk_rng {kd vn : Int32} {n man : Nat} {f : Nat → Int32} : ∀ m p k, lk kd vn n f man m p k = 0 ∨ (k ≤ lk kd vn n f man m p k ∧ lk kd vn n f man m p k < k + m) := by
  intro m
  induction m with
  | zero => intro p k; exact Or.inl rfl
  | succ m ih =>
    intro p k
    rw [lk]
    split
    · exact Or.inr ⟨Nat.le_refl _, by omega⟩
    · rcases ih (nx kd vn n f (ix p) (nI k)) (k + 1) with h | ⟨h1, h2⟩
      · exact Or.inl h
      · exact Or.inr ⟨by omega, by omega⟩
theorem m_findsL {n man most w : Nat} {kd : Int32} {σ : HS} (hn : n ≤ 12) (hm : most ≤ 12) (hw : w ≤ 11) (hs : gI σ 0 8 = nI n) (hf : VL n (gI σ 4)) : ∀ (F m : Nat) (p k : Nat), p < n → m < F → 0 < k → k + m = most → c_X9_finds_38 F kd (nI w) (nI man) (nI most) (nI p) (sI σ 0 27 (nI k)) = some (nI (lk kd (nI w) n (gI σ 4) man (m + 1) (nI p) k), sI σ 0 27 (nI (if lk kd (nI w) n (gI σ 4) man (m + 1) (nI p) k = 0 then most else lk kd (nI w) n (gI σ 4) man (m + 1) (nI p) k))) := by
  intro F
  induction F with
  | zero => intro m p k hp hm; omega
  | succ F ih =>
    intro m p k hp hmF h0 hk2
    have g4 : gI (sI σ 0 27 (nI k)) 4 = gI σ 4 := rfl
    have g27 : gI (sI σ 0 27 (nI k)) 0 27 = nI k := by rw [gI_sI]; simp
    rw [c_X9_finds_38, if_pos (inb_nI (by omega) (by omega)), g4, ix_nI (by omega), g27, lk, ix_nI (by omega)]
    by_cases c : gI σ 4 p = nI man
    · rw [if_pos c, if_pos c, c_X9_finds_85, if_pos (inb_nI (by omega) (by omega)), g4, ix_nI (by omega), if_pos c, g27, if_neg (by omega)]
    · rw [if_neg c, if_neg c]
      cases m with
      | zero =>
        rw [if_pos (by rw [nI_leI (by omega) (by omega)]; omega), c_X9_finds_85, if_pos (inb_nI (by omega) (by omega)), g4, ix_nI (by omega), if_neg c, lk, if_pos rfl, nI_0]
        have : k = most := by omega
        rw [this]
      | succ m =>
        rw [if_neg (by rw [nI_leI (by omega) (by omega)]; omega), m_next (σ := sI σ 0 27 (nI k)) (by omega) hn hp (by rw [gI_sI, if_neg (by omega)]; exact hs), g4]
        obtain ⟨v, hv2, e⟩ := nx_v (kd := kd) (lk := nI k) (f := gI σ 4) hn hp hf hw
        rw [e]
        show c_X9_finds_38 F kd (nI w) (nI man) (nI most) (nI v) (sI (sI σ 0 27 (nI k)) 0 27 (gI (sI σ 0 27 (nI k)) 0 27 + 1)) = _
        rw [g27, nI_1]
        have e2 : sI (sI σ 0 27 (nI k)) 0 27 (nI (k + 1)) = sI σ 0 27 (nI (k + 1)) := by
          refine HS_ext (fun j m => ?_) (fun j m => rfl) (fun j m => rfl)
          rw [gI_sI, gI_sI, gI_sI]
          split <;> rfl
        rw [e2]
        exact ih m v (k + 1) hv2 (by omega) (by omega) (by omega)
theorem m_finds {n lks man w : Nat} {kd : Int32} {σ : HS} (hn : n ≤ 12) (hl0 : 0 < lks) (hl : lks ≤ 12) (hmn : man < n) (hw : w ≤ 11) (hs : gI σ 0 8 = nI n) (hlk : gI σ 0 9 = nI lks) (hf : VL n (gI σ 4)) : c_X9_finds kd (nI w) (nI man) σ = some (nI (lkA kd (nI w) n (gI σ 4) man (min lks n)), sI σ 0 27 (nI (if lkA kd (nI w) n (gI σ 4) man (min lks n) = 0 then min lks n else lkA kd (nI w) n (gI σ 4) man (min lks n)))) := by
  have key : c_X9_finds_22 kd (nI w) (nI man) (nI (min lks n)) σ = some (nI (lkA kd (nI w) n (gI σ 4) man (min lks n)), sI σ 0 27 (nI (if lkA kd (nI w) n (gI σ 4) man (min lks n) = 0 then min lks n else lkA kd (nI w) n (gI σ 4) man (min lks n)))) := by
    rw [c_X9_finds_22, m_first (by omega) hn hs, lkA]
    obtain ⟨v, hv2, e⟩ := fb_v (kd := kd) hn hmn hw
    rw [e]
    have := m_findsL (man := man) (kd := kd) hn (show min lks n ≤ 12 by omega) hw hs hf FU (min lks n - 1) v 1 hv2 (by rw [FU]; omega) (by omega) (by omega)
    rw [show min lks n - 1 + 1 = min lks n by omega] at this
    exact this
  rw [c_X9_finds, hs, hlk]
  by_cases c : n ≤ lks
  · rw [if_pos (by rw [nI_leI (by omega) (by omega)]; exact c)]
    rw [show min lks n = n by omega] at key ⊢
    exact key
  · rw [if_neg (by rw [nI_leI (by omega) (by omega)]; exact c)]
    rw [show min lks n = lks by omega] at key ⊢
    exact key
