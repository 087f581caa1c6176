/-! WHO GOES HOME -/
theorem mr_s {γ : Type} (j : Nat) (f : Nat → Option γ) : mr (some j) f = f j := rfl
def SXt (t i k : Nat) : Prop := (i = 20 + 4 * t ∧ k = 4) ∨ i = 20 + 4 * t + 3
def SR (i k : Nat) : Prop := i = 0 ∧ 13 ≤ k ∧ k ≤ 23
/-- what a text says, by part and facts: the class's -/
def EvX (C E : Nat → Int32) (t : Nat) (ev : Nat → (Nat → Int32) → Int32) : Prop := ∀ τ : HS, (∀ k, k < 160 → gI τ (20 + 4 * t + 1) k = C k) → (∀ k, k < 3 → gI τ (20 + 4 * t + 2) k = E k) → ∀ wh, wh < 3 → ∃ τ', c_X6_worth (20 + 4 * t) (nI wh) τ = some (ev wh (gI τ 16), τ') ∧ Off (SXt t) τ τ'
/-- the reference's -/
def fct (τ : HS) (fd lks : Int32) : Nat → Int32 := fun k => if k = 0 then fd else if k = 1 then gI τ 0 8 else if k = 2 then lks else if k = 3 then gI τ 0 12 else if k = 4 then gI τ 0 10 else gI τ 0 11
def EvM (T : Nat → Int32) (sz : Int32) (t : Nat) (ev : Nat → (Nat → Int32) → Int32) : Prop := ∀ τ : HS, (∀ k, 160 * t ≤ k → k < 160 * t + 160 → gI τ 1 k = T k) → gI τ 2 t = sz → ∀ wh, wh < 3 → ∀ fd lks, ∃ τ', c_X9_read (nI t) fd lks (nI wh) τ = some (ev wh (fct τ fd lks), τ') ∧ Off SR τ τ'
/-- only the six facts count -/
def Evf (ev : Nat → (Nat → Int32) → Int32) : Prop := ∀ wh g h, (∀ k, k < 6 → g k = h k) → ev wh g = ev wh h
def ghR (ev : Nat → (Nat → Int32) → Int32) (g : Nat → Int32) (n : Nat) : Int32 := if ev 0 g = 0 then jxmax 0 (jxmin (nI n) (ev 1 g)) else nI n
theorem x_worth {t tc wh : Nat} {C E : Nat → Int32} {ev : Nat → (Nat → Int32) → Int32} {σ : HS} (hev : EvX C E t ev) (ht : t < tc) (htc : tc ≤ 6) (hr : gI σ 0 2 = nI t) (hc : gI σ 0 12 = nI tc) (hj : gR σ 11 t = some (20 + 4 * t)) (hC : ∀ k, k < 160 → gI σ (20 + 4 * t + 1) k = C k) (hE : ∀ k, k < 3 → gI σ (20 + 4 * t + 2) k = E k) (hw : wh < 3) : ∃ τ, c_X8_worth (nI wh) σ = some (ev wh (gI σ 16), τ) ∧ Off (SXt t) σ τ := by
  obtain ⟨τ, h1, h2⟩ := hev σ hC hE wh hw
  refine ⟨τ, ?_, h2⟩
  rw [c_X8_worth, hr, hc, if_neg (nI_pos (by omega)), if_neg (by rw [nI_leI (by omega) (by omega)]; omega), if_pos (inb_nI (by omega) (by omega)), ix_nI (by omega), hj]
  rw [mr_s, h1, bi2_s]
theorem x_home {i1 i2 n n1 lks q w t tc : Nat} {C E : Nat → Int32} {ev : Nat → (Nat → Int32) → Int32} {σ : HS} (hn : n ≤ 12) (hl : lks ≤ 12) (hq : q ≤ 5) (hw : w ≤ 11) (hlk : gI σ 0 1 = nI lks) (hn1 : gI σ 1 1 = nI n1) (hn2 : n1 ≤ 12) (hk : gI σ i1 0 = nI q) (hv : gI σ i1 1 = nI w) (hs : gI σ i2 1 = nI n) (hf : VL n (gI σ (i2 + 1))) (hi2 : i2 < 16)
    (hev : EvX C E t ev) (ht : t < tc) (htc : tc ≤ 6) (hr : gI σ 0 2 = nI t) (hc : gI σ 0 12 = nI tc) (hj : gR σ 11 t = some (20 + 4 * t)) (hC : ∀ k, k < 160 → gI σ (20 + 4 * t + 1) k = C k) (hE : ∀ k, k < 3 → gI σ (20 + 4 * t + 2) k = E k) (g : Nat → Int32) (hg : g = fun k => if k = 2 then nI (tkS (nI q) (nI w) n (gI σ (i2 + 1)) (min lks n1) n) else if k = 0 then nI (fnS (nI q) (nI w) n (gI σ (i2 + 1)) (min lks n1) n) else gI σ 16 k) : ∃ τ, c_X8_goHome i1 i2 σ = some (ghR ev g n, τ) ∧ Off (fun i k => SXt t i k ∨ i = 16) σ τ ∧ gI τ 16 = g := by
  obtain ⟨s1, e1⟩ : ∃ z, z = sI (sI σ 16 0 (nI (fnS (nI q) (nI w) n (gI σ (i2 + 1)) (min lks n1) n))) 16 2 (nI (tkS (nI q) (nI w) n (gI σ (i2 + 1)) (min lks n1) n)) := ⟨_, rfl⟩
  have h1 : c_X8_noteRun i1 i2 σ = some s1 := by rw [e1]; exact x_run hn hl hq hw hlk hn1 hn2 hk hv hs hf
  have o1 : Off (fun i k => SXt t i k ∨ i = 16) σ s1 := by
    rw [e1]
    exact (Off.sI (Or.inr rfl)).tr (Off.sI (Or.inr rfl))
  have g1 : gI s1 16 = g := by
    rw [hg, e1]
    funext k
    rw [gI_sI, gI_sI]
    by_cases c1 : k = 2 <;> by_cases c2 : k = 0 <;> simp [c1, c2]
  have n16 : ∀ i k, (i < 16 ∨ i = 20 + 4 * t + 1 ∨ i = 20 + 4 * t + 2) → ¬ (SXt t i k ∨ i = 16) := by
    intro i k h z
    unfold SXt at z
    omega
  have W : ∀ wh, wh < 3 → ∀ s2, Off (fun i k => SXt t i k ∨ i = 16) σ s2 → gI s2 16 = g → ∃ τ, c_X8_worth (nI wh) s2 = some (ev wh g, τ) ∧ Off (fun i k => SXt t i k ∨ i = 16) σ τ ∧ gI τ 16 = g := by
    intro wh hwh s2 o2 g2
    obtain ⟨τ, h3, h4⟩ := x_worth (σ := s2) hev ht htc (by rw [o2.1 0 2 (n16 _ _ (by omega)), hr]) (by rw [o2.1 0 12 (n16 _ _ (by omega)), hc]) (by rw [o2.2.2, hj]) (fun k hk => by rw [o2.1 _ k (n16 _ _ (by omega)), hC k hk]) (fun k hk => by rw [o2.1 _ k (n16 _ _ (by omega)), hE k hk]) hwh
    refine ⟨τ, by rw [h3, g2], o2.tr (h4.mono fun i k z => Or.inl z), ?_⟩
    rw [← g2]
    exact Off.row h4 (fun k z => by unfold SXt at z; omega)
  obtain ⟨s2, h3, o2, g2⟩ := W 0 (by omega) s1 o1 g1
  rw [c_X8_goHome, h1, bi1_s]
  rw [show (0 : Int32) = nI 0 from rfl, h3, bi2_s, ghR, nI_0]
  by_cases c : ev 0 g = 0
  · obtain ⟨s3, h4, o3, g3⟩ := W 1 (by omega) s2 o2 g2
    rw [if_pos c, if_pos c]
    rw [show (1 : Int32) = nI 1 from rfl, h4, bi2_s, o2.1 i2 1 (n16 _ _ (by omega)), hs]
    exact ⟨s3, rfl, o3, g3⟩
  · rw [if_neg c, if_neg c, o2.1 i2 1 (n16 _ _ (by omega)), hs]
    exact ⟨s2, rfl, o2, g2⟩
theorem m_runL {n lks w : Nat} {kd : Int32} {σ : HS} (hn : n ≤ 12) (hl0 : 0 < lks) (hl : lks ≤ 12) (hw : w ≤ 11) (hs : gI σ 0 8 = nI n) (hlk : gI σ 0 9 = nI lks) (hf : VL n (gI σ 4)) : ∀ (F m : Nat) (a : Int32), m ≤ n → n - m < F → ∃ a', c_X9_goHome_12 F kd (nI w) (nI m) (t3 σ 0 27 a (nI (fnS kd (nI w) n (gI σ 4) (min lks n) m)) (nI (tkS kd (nI w) n (gI σ 4) (min lks n) m))) = c_X9_goHome_63 (t3 σ 0 27 a' (nI (fnS kd (nI w) n (gI σ 4) (min lks n) n)) (nI (tkS kd (nI w) n (gI σ 4) (min lks n) n))) := by
  intro F
  induction F with
  | zero => intro m a h1 h2; omega
  | succ F ih =>
    intro m a hmn hF
    have g4 : ∀ a b c, gI (t3 σ 0 27 a b c) 4 = gI σ 4 := fun a b c => t3_row (by omega)
    have g8 : ∀ a b c, gI (t3 σ 0 27 a b c) 0 8 = nI n := fun a b c => by rw [t3_ne (by omega), hs]
    have g9 : ∀ a b c, gI (t3 σ 0 27 a b c) 0 9 = nI lks := fun a b c => by rw [t3_ne (by omega), hlk]
    have g27 : ∀ a b c, gI (t3 σ 0 27 a b c) 0 27 = a := fun a b c => by rw [gI_t3]; simp
    have g28 : ∀ a b c, gI (t3 σ 0 27 a b c) 0 28 = b := fun a b c => by rw [gI_t3]; simp
    have g29 : ∀ a b c, gI (t3 σ 0 27 a b c) 0 29 = c := fun a b c => by rw [gI_t3]; simp
    rw [c_X9_goHome_12, g8]
    by_cases c : n ≤ m
    · have : m = n := by omega
      subst this
      rw [if_pos (by rw [nI_leI (by omega) (by omega)]; exact c)]
      exact ⟨a, rfl⟩
    · rw [if_neg (by rw [nI_leI (by omega) (by omega)]; exact c), m_finds hn hl0 hl (by omega) hw (g8 _ _ _) (g9 _ _ _) (by rw [g4]; exact hf), bi2_s, g4, g28, t3_0]
      have hle := lkA_le (kd := kd) (vn := nI w) (n := n) (man := m) (most := min lks n) (f := gI σ 4)
      have hfe : fnS kd (nI w) n (gI σ 4) (min lks n) (m + 1) = fnS kd (nI w) n (gI σ 4) (min lks n) m + if lkA kd (nI w) n (gI σ 4) m (min lks n) = 0 then 0 else 1 := rfl
      have hte : tkS kd (nI w) n (gI σ 4) (min lks n) (m + 1) = tkS kd (nI w) n (gI σ 4) (min lks n) m + if lkA kd (nI w) n (gI σ 4) m (min lks n) = 0 then min lks n else lkA kd (nI w) n (gI σ 4) m (min lks n) := rfl
      have h40 : ∀ (x : Int32) (y : Int32), nI (fnS kd (nI w) n (gI σ 4) (min lks n) m) + y = nI (fnS kd (nI w) n (gI σ 4) (min lks n) (m + 1)) → nI (tkS kd (nI w) n (gI σ 4) (min lks n) m) + x = nI (tkS kd (nI w) n (gI σ 4) (min lks n) (m + 1)) → ∃ a', c_X9_goHome_40 (fun z0 z1 z2 z3 => c_X9_goHome_12 F z0 z1 z2 z3) kd (nI w) (nI m) (nI (fnS kd (nI w) n (gI σ 4) (min lks n) m)) y (t3 σ 0 27 x (nI (fnS kd (nI w) n (gI σ 4) (min lks n) m)) (nI (tkS kd (nI w) n (gI σ 4) (min lks n) m))) = c_X9_goHome_63 (t3 σ 0 27 a' (nI (fnS kd (nI w) n (gI σ 4) (min lks n) n)) (nI (tkS kd (nI w) n (gI σ 4) (min lks n) n))) := by
        intro x y hy hx
        rw [c_X9_goHome_40, hy, t3_1 σ 0 27, nI_1]
        show ∃ a', c_X9_goHome_12 F kd (nI w) (nI (m + 1)) (sI (t3 σ 0 27 x _ _) 0 29 (gI (t3 σ 0 27 x _ _) 0 29 + gI (t3 σ 0 27 x _ _) 0 27)) = _
        rw [g29, g27, hx, t3_2 σ 0 27]
        exact ih (m + 1) x (by omega) (by omega)
      by_cases c2 : lkA kd (nI w) n (gI σ 4) m (min lks n) = 0
      · rw [if_pos (by rw [c2]; decide), if_pos c2]
        rw [if_pos c2] at hfe hte
        exact h40 _ _ (by rw [hfe, ← nI_0, nI_add]) (by rw [hte, nI_add])
      · rw [if_neg (by rw [← nI_0, nI_leI (by omega) (by omega)]; omega), if_neg c2]
        rw [if_neg c2] at hfe hte
        exact h40 _ _ (by rw [hfe, nI_1]) (by rw [hte, nI_add])
theorem clampE {m r : Int32} (hm : 0 ≤ m) : (if 0 ≤ r then (if r ≤ m then r else m) else 0) = jxmax 0 (jxmin m r) := by
  rw [jxmax, jxmin]
  have z : (0 : Int32).toInt = 0 := by decide
  simp only [Int32.lt_iff_toInt_lt, Int32.le_iff_toInt_le, z] at hm ⊢
  apply Int32.toInt_inj.mp
  repeat' split
  all_goals first | rfl | (exfalso; omega) | omega
theorem m_home {n lks w t : Nat} {kd : Int32} {T : Nat → Int32} {sz : Int32} {ev : Nat → (Nat → Int32) → Int32} {σ : HS} (hn : n ≤ 12) (hl0 : 0 < lks) (hl : lks ≤ 12) (hw : w ≤ 11) (hs : gI σ 0 8 = nI n) (hlk : gI σ 0 9 = nI lks) (hf : VL n (gI σ 4)) (hj : VJ n (gI σ 4)) (hev : EvM T sz t ev) (hr : gI σ 0 4 = nI t) (hT : ∀ k, 160 * t ≤ k → k < 160 * t + 160 → gI σ 1 k = T k) (hsz : gI σ 2 t = sz) (g : Nat → Int32) (hg : ∀ k, k < 6 → g k = if k = 0 then nI (fnS kd (nI w) n (gI σ 4) (min lks n) n) else if k = 1 then nI n else if k = 2 then nI (tkS kd (nI w) n (gI σ 4) (min lks n) n) else if k = 3 then nI (svM (gI σ 4) n) else if k = 4 then nI (svR n (gI σ 4) n) else nI (svL n (gI σ 4) n)) (hef : Evf ev) : ∃ τ, c_X9_goHome kd (nI w) σ = some (ghR ev g n, τ) ∧ Off (fun i k => i = 0 ∧ ((10 ≤ k ∧ k ≤ 23) ∨ (27 ≤ k ∧ k ≤ 29))) σ τ ∧ gI τ 0 28 = g 0 ∧ gI τ 0 29 = g 2 := by
  obtain ⟨R, eR⟩ : ∃ z, z = svR n (gI σ 4) n := ⟨_, rfl⟩
  obtain ⟨L, eL⟩ : ∃ z, z = svL n (gI σ 4) n := ⟨_, rfl⟩
  obtain ⟨M, eM⟩ : ∃ z, z = svM (gI σ 4) n := ⟨_, rfl⟩
  obtain ⟨fn, efn⟩ : ∃ z, z = nI (fnS kd (nI w) n (gI σ 4) (min lks n) n) := ⟨_, rfl⟩
  obtain ⟨tk, etk⟩ : ∃ z, z = nI (tkS kd (nI w) n (gI σ 4) (min lks n) n) := ⟨_, rfl⟩
  rw [← eR, ← eL, ← eM, ← efn, ← etk] at hg
  have e0 : sI (sI σ 0 28 0) 0 29 0 = t3 σ 0 27 (gI σ 0 27) (nI 0) (nI 0) := by
    refine HS_ext (fun j m => ?_) (fun j m => rfl) (fun j m => rfl)
    rw [gI_t3, gI_sI, gI_sI, nI_0]
    by_cases h0 : j = 0 <;> by_cases h1 : m = 27 <;> by_cases h2 : m = 28 <;> by_cases h3 : m = 29 <;> simp [h0, h1, h2, h3] <;> omega
  obtain ⟨a', h1⟩ := m_runL (kd := kd) hn hl0 hl hw hs hlk hf FU 0 (gI σ 0 27) (by omega) (by rw [FU]; omega)
  rw [← efn, ← etk] at h1
  have h2 : c_X9_goHome kd (nI w) σ = c_X9_goHome_63 (t3 σ 0 27 a' fn tk) := by
    rw [c_X9_goHome]
    show c_X9_goHome_12 FU kd (nI w) 0 (sI (sI σ 0 28 0) 0 29 0) = _
    rw [e0]
    exact h1
  have g4 : gI (t3 σ 0 27 a' fn tk) 4 = gI σ 4 := t3_row (by omega)
  have h3 := m_lays (σ := t3 σ 0 27 a' fn tk) (n := n) (by rw [t3_ne (by omega), hs]) hn (by rw [g4]; exact hf) (by rw [g4]; exact hj)
  obtain ⟨s2, e2⟩ : ∃ z, z = svY n (t3 σ 0 27 a' fn tk) n (svR n (gI (t3 σ 0 27 a' fn tk) 4) n) := ⟨_, rfl⟩
  rw [← e2] at h3
  rw [svY, g4, ← eR, ← eL, ← eM] at e2
  have r2 : ∀ i k, ¬ (i = 0 ∧ ((10 ≤ k ∧ k ≤ 12) ∨ (27 ≤ k ∧ k ≤ 29))) → gI s2 i k = gI σ i k := fun i k h => by
    rw [e2, t3_ne (by omega), t3_ne (by omega)]
  have q28 : gI s2 0 28 = fn := by rw [e2, t3_ne (by omega), gI_t3]; simp
  have q29 : gI s2 0 29 = tk := by rw [e2, t3_ne (by omega), gI_t3]; simp
  have q10 : gI s2 0 10 = nI R := by rw [e2, gI_t3]; simp
  have q11 : gI s2 0 11 = nI L := by rw [e2, gI_t3]; simp
  have q12 : gI s2 0 12 = nI M := by rw [e2, gI_t3]; simp
  have o2 : Off (fun i k => i = 0 ∧ ((10 ≤ k ∧ k ≤ 23) ∨ (27 ≤ k ∧ k ≤ 29))) σ s2 := by
    rw [e2]
    exact (Off.t3 ⟨rfl, by omega⟩ ⟨rfl, by omega⟩ ⟨rfl, by omega⟩).tr (Off.t3 ⟨rfl, by omega⟩ ⟨rfl, by omega⟩ ⟨rfl, by omega⟩)
  -- what is read behind it
  have W : ∀ wh, wh < 3 → ∀ s, Off SR s2 s → ∃ τ, c_X9_read (gI s 0 4) (gI s 0 28) (gI s 0 29) (nI wh) s = some (ev wh g, τ) ∧ Off SR s2 τ := by
    intro wh hwh s os
    have k4 : gI s 0 4 = nI t := by rw [os.1 0 4 (by unfold SR; omega), r2 0 4 (by omega), hr]
    have k28 : gI s 0 28 = fn := by rw [os.1 0 28 (by unfold SR; omega), q28]
    have k29 : gI s 0 29 = tk := by rw [os.1 0 29 (by unfold SR; omega), q29]
    obtain ⟨τ, h5, h6⟩ := hev s (fun k ka kb => by rw [os.1 1 k (by unfold SR; omega), r2 1 k (by omega), hT k ka kb]) (by rw [os.1 2 t (by unfold SR; omega), r2 2 t (by omega), hsz]) wh hwh fn tk
    rw [k4, k28, k29]
    refine ⟨τ, ?_, os.tr h6⟩
    rw [h5]
    have : ev wh (fct s fn tk) = ev wh g := by
      refine hef wh _ _ (fun k hk => ?_)
      rw [hg k hk, fct, os.1 0 8 (by unfold SR; omega), r2 0 8 (by omega), hs, os.1 0 12 (by unfold SR; omega), q12, os.1 0 10 (by unfold SR; omega), q10, os.1 0 11 (by unfold SR; omega), q11]
    rw [this]
  obtain ⟨s3, h5, o3⟩ := W 0 (by omega) s2 Off.rf
  have fin : ∀ s, Off SR s2 s → Off (fun i k => i = 0 ∧ ((10 ≤ k ∧ k ≤ 23) ∨ (27 ≤ k ∧ k ≤ 29))) σ s ∧ gI s 0 28 = g 0 ∧ gI s 0 29 = g 2 ∧ gI s 0 8 = nI n := by
    intro s os
    refine ⟨o2.tr (os.mono fun i k z => ⟨z.1, Or.inl ⟨by have := z.2; omega, z.2.2⟩⟩), ?_, ?_, ?_⟩
    · rw [os.1 0 28 (by unfold SR; omega), q28, hg 0 (by omega), if_pos rfl]
    · rw [os.1 0 29 (by unfold SR; omega), q29, hg 2 (by omega), if_neg (by omega), if_neg (by omega), if_pos rfl]
    · rw [os.1 0 8 (by unfold SR; omega), r2 0 8 (by omega), hs]
  rw [h2, c_X9_goHome_63, h3, bi1_s]
  rw [show (0 : Int32) = nI 0 from rfl, h5, bi2_s, ghR]
  obtain ⟨f1, f2, f3, f4⟩ := fin s3 o3
  by_cases c : ev 0 g = 0
  · obtain ⟨s4, h6, o4⟩ := W 1 (by omega) s3 o3
    rw [if_pos (by rw [c]; rfl), if_pos c]
    rw [show (1 : Int32) = nI 1 from rfl, h6, bi2_s]
    obtain ⟨k1, k2, k3, k4⟩ := fin s4 o4
    rw [k4]
    have := clampE (m := nI n) (r := ev 1 g) (nI_pos' (by omega))
    rw [← this, nI_0]
    refine ⟨s4, ?_, k1, k2, k3⟩
    split
    · split <;> rfl
    · rfl
  · rw [if_neg (by rw [nI_0]; exact c), if_neg c, f4]
    exact ⟨s3, rfl, f1, f2, f3⟩
