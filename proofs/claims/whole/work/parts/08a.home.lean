/-! WHO GOES HOME, by both, in one word -/
noncomputable def Fc (q w n lks : Nat) (f : Nat → Int32) : Nat → Int32 := fun k => if k = 0 then nI (fnS (nI q) (nI w) n f (min lks n) n) else if k = 1 then nI n else if k = 2 then nI (tkS (nI q) (nI w) n f (min lks n) n) else if k = 3 then nI (svM f n) else if k = 4 then nI (svR n f n) else nI (svL n f n)
noncomputable def Hm (e : Nat → Vf) (q w n lks : Nat) (f : Nat → Int32) : Int32 := ghR e (Fc q w n lks f) n
theorem Fc_alk {q w n lks : Nat} {f g : Nat → Int32} (hn : n ≤ 12) (hw : w ≤ 11) (hf : VL n f) (e : alk n f g) : Fc q w n lks f = Fc q w n lks g := by
  obtain ⟨h1, h2⟩ := fnS_alk (kd := nI q) (most := min lks n) hn hw hf e n (Nat.le_refl _)
  funext k
  rw [Fc, Fc, h1, h2, svM_alk e n (Nat.le_refl _), svR_alk hn hf e n (Nat.le_refl _), svL_alk hn hf e n (Nat.le_refl _)]
theorem Hm_alk {ev : Nat → Vf} {q w n lks : Nat} {f g : Nat → Int32} (hn : n ≤ 12) (hw : w ≤ 11) (hf : VL n f) (e : alk n f g) : Hm ev q w n lks f = Hm ev q w n lks g := by rw [Hm, Hm, Fc_alk hn hw hf e]
theorem gh_nn {ev : Nat → Vf} {g : Nat → Int32} {n : Nat} (hn : n ≤ 12) : ∃ v, v ≤ n ∧ ghR ev g n = nI v := by
  rw [ghR]
  by_cases c : ev 0 g = 0
  · rw [if_pos c]
    by_cases c1 : ev 1 g < 0
    · refine ⟨0, Nat.zero_le _, ?_⟩
      have h1 : jxmin (nI n) (ev 1 g) = ev 1 g := by
        rw [jxmin, if_pos]
        rw [Int32.lt_iff_toInt_lt, nI_toInt (by omega)]
        rw [Int32.lt_iff_toInt_lt, show (0 : Int32).toInt = 0 by decide] at c1
        omega
      rw [h1, jxmax, if_neg, nI_0]
      rw [Int32.lt_iff_toInt_lt]
      rw [Int32.lt_iff_toInt_lt] at c1
      omega
    · obtain ⟨j, hj, e⟩ := nI_of c1
      rw [e, jxmin_nI (by omega) hj, ← nI_0, jxmax_nI (by omega) (by omega)]
      exact ⟨max 0 (min n j), by omega, rfl⟩
  · rw [if_neg c]; exact ⟨n, Nat.le_refl _, rfl⟩
theorem Hm_nn {ev : Nat → Vf} {q w n lks : Nat} {f : Nat → Int32} (hn : n ≤ 12) : ∃ v, v ≤ n ∧ Hm ev q w n lks f = nI v := gh_nn hn
/-- a laying, the rule and looks stand, by the first -/
def CX (n lks t tc : Nat) (e : Nat → Vf) (i2 : Nat) (σ : HS) : Prop := (1 ≤ n ∧ n ≤ 12) ∧ (1 ≤ lks ∧ lks ≤ 12) ∧ (gI σ 0 1 = nI lks ∧ gI σ 1 1 = nI n ∧ gI σ i2 1 = nI n) ∧ VL n (gI σ (i2 + 1)) ∧ VJ n (gI σ (i2 + 1)) ∧ (t < tc ∧ tc ≤ 6) ∧ gI σ 0 2 = nI t ∧ gI σ 0 12 = nI tc ∧ gR σ 11 t = some (20 + 4 * t) ∧ EvX (gI σ (20 + 4 * t + 1)) (gI σ (20 + 4 * t + 2)) t e ∧ Evf e
def CM (n lks t : Nat) (e : Nat → Vf) (υ : HS) : Prop := (1 ≤ n ∧ n ≤ 12) ∧ (1 ≤ lks ∧ lks ≤ 12) ∧ (gI υ 0 8 = nI n ∧ gI υ 0 9 = nI lks) ∧ VL n (gI υ 4) ∧ VJ n (gI υ 4) ∧ gI υ 0 4 = nI t ∧ EvM (gI υ 1) (gI υ 2 t) t e ∧ Evf e
def Ntd (n i2 : Nat) (σ : HS) : Prop := gI σ 16 1 = nI n ∧ gI σ 16 3 = nI (svM (gI σ (i2 + 1)) n) ∧ gI σ 16 4 = nI (svR n (gI σ (i2 + 1)) n) ∧ gI σ 16 5 = nI (svL n (gI σ (i2 + 1)) n)
def Zn (i2 i k : Nat) : Prop := (i = i2 ∧ 2 ≤ k ∧ k ≤ 4) ∨ i = 16
def Zh (t i k : Nat) : Prop := SXt t i k ∨ i = 16
theorem X_nt {n lks t tc i2 : Nat} {e : Nat → Vf} {σ : HS} (h : CX n lks t tc e i2 σ) (hi : i2 = 1 ∨ i2 = 5) : ∃ τ, c_X8_noteLaying i2 σ = some τ ∧ Off (Zn i2) σ τ ∧ Ntd n i2 τ := by
  obtain ⟨⟨h0, hn⟩, hl, ⟨h1, h2, h3⟩, hf, hj, ht, hr, hc, hR, hE, hEf⟩ := h
  have q16 : ∀ k, Zn i2 16 k := fun k => Or.inr rfl
  have o1 : Off (Zn i2) σ (svX i2 n σ n) := Off.t3 (Or.inl ⟨rfl, by omega, by omega⟩) (Or.inl ⟨rfl, by omega, by omega⟩) (Or.inl ⟨rfl, by omega, by omega⟩)
  have o2 : ∀ v1 v3 v4 v5, Off (Zn i2) σ (sI (sI (sI (sI (svX i2 n σ n) 16 1 v1) 16 3 v3) 16 4 v4) 16 5 v5) := fun v1 v3 v4 v5 => o1.tr ((Off.sI (q16 1)).tr ((Off.sI (q16 3)).tr ((Off.sI (q16 4)).tr (Off.sI (q16 5)))))
  have rw1 : ∀ v1 v3 v4 v5, gI (sI (sI (sI (sI (svX i2 n σ n) 16 1 v1) 16 3 v3) 16 4 v4) 16 5 v5) (i2 + 1) = gI σ (i2 + 1) := fun v1 v3 v4 v5 => (o2 v1 v3 v4 v5).row fun k z => by unfold Zn at z; omega
  refine ⟨_, x_note h3 hn (by omega) hf hj, o2 _ _ _ _, ?_, ?_, ?_, ?_⟩
  · rw [sI_k (by omega), sI_k (by omega), sI_k (by omega), sI_at]
  · rw [rw1, sI_k (by omega), sI_k (by omega), sI_at]
  · rw [rw1, sI_k (by omega), sI_at]
  · rw [rw1, sI_at]
theorem X_gh {n lks t tc i1 i2 q w : Nat} {e : Nat → Vf} {σ : HS} (h : CX n lks t tc e i2 σ) (hN : Ntd n i2 σ) (hi : i2 = 1 ∨ i2 = 5) (hq : q ≤ 5) (hw : w ≤ 11) (hk : gI σ i1 0 = nI q) (hv : gI σ i1 1 = nI w) : ∃ τ, c_X8_goHome i1 i2 σ = some (Hm e q w n lks (gI σ (i2 + 1)), τ) ∧ Off (Zh t) σ τ ∧ gI τ 16 0 = Fc q w n lks (gI σ (i2 + 1)) 0 ∧ gI τ 16 2 = Fc q w n lks (gI σ (i2 + 1)) 2 ∧ Ntd n i2 τ := by
  obtain ⟨⟨h0, hn⟩, hl, ⟨h1, h2, h3⟩, hf, hj, ht, hr, hc, hR, hE, hEf⟩ := h
  obtain ⟨τ, e1, o1, g1⟩ := x_home hn hl.2 hq hw h1 h2 hn hk hv h3 hf (by omega) hE ht.1 ht.2 hr hc hR (fun _ _ => rfl) (fun _ _ => rfl) _ rfl
  have row : gI τ (i2 + 1) = gI σ (i2 + 1) := o1.row fun k z => by rcases z with z | z <;> (unfold SXt at *; omega)
  have g0 : ∀ k, gI τ 16 k = if k = 2 then nI (tkS (nI q) (nI w) n (gI σ (i2 + 1)) (min lks n) n) else if k = 0 then nI (fnS (nI q) (nI w) n (gI σ (i2 + 1)) (min lks n) n) else gI σ 16 k := fun k => congrFun g1 k
  refine ⟨τ, ?_, o1, ?_, ?_, ?_, ?_, ?_, ?_⟩
  · rw [e1, Hm, ghR, ghR]
    have eq : ∀ wh, e wh (fun k => if k = 2 then nI (tkS (nI q) (nI w) n (gI σ (i2 + 1)) (min lks n) n) else if k = 0 then nI (fnS (nI q) (nI w) n (gI σ (i2 + 1)) (min lks n) n) else gI σ 16 k) = e wh (Fc q w n lks (gI σ (i2 + 1))) := by
      intro wh
      refine hEf wh _ _ fun k hk6 => ?_
      have : k = 0 ∨ k = 1 ∨ k = 2 ∨ k = 3 ∨ k = 4 ∨ k = 5 := by omega
      rcases this with rfl | rfl | rfl | rfl | rfl | rfl
      · rfl
      · exact hN.1
      · rfl
      · exact hN.2.1
      · exact hN.2.2.1
      · exact hN.2.2.2
    rw [eq, eq]
  · rw [g0]; rfl
  · rw [g0]; rfl
  · rw [g0]; exact hN.1
  · rw [g0, row]; exact hN.2.1
  · rw [g0, row]; exact hN.2.2.1
  · rw [g0, row]; exact hN.2.2.2
def Zg (i k : Nat) : Prop := i = 0 ∧ ((10 ≤ k ∧ k ≤ 23) ∨ (27 ≤ k ∧ k ≤ 29))
theorem M_gh {n lks t q w : Nat} {e : Nat → Vf} {υ : HS} (h : CM n lks t e υ) (hw : w ≤ 11) : ∃ τ, c_X9_goHome (nI q) (nI w) υ = some (Hm e q w n lks (gI υ 4), τ) ∧ Off Zg υ τ ∧ gI τ 0 28 = Fc q w n lks (gI υ 4) 0 ∧ gI τ 0 29 = Fc q w n lks (gI υ 4) 2 := by
  obtain ⟨⟨h0, hn⟩, hl, ⟨h1, h2⟩, hf, hj, hr, hE, hEf⟩ := h
  exact m_home hn hl.1 hl.2 hw h1 h2 hf hj hE hr (fun _ _ _ => rfl) rfl _ (fun k hk => rfl) hEf
theorem CX.off {n lks t tc i2 : Nat} {e : Nat → Vf} {σ τ : HS} {S : Nat → Nat → Prop} (h : CX n lks t tc e i2 σ) (o : Off S σ τ) (hS : ∀ i k, S i k → ¬ (i = 0 ∧ (k = 1 ∨ k = 2 ∨ k = 12)) ∧ ¬ ((i = 1 ∨ i = i2) ∧ k = 1) ∧ i ≠ i2 + 1 ∧ i ≠ 20 + 4 * t + 1 ∧ i ≠ 20 + 4 * t + 2) : CX n lks t tc e i2 τ := by
  obtain ⟨h0, hl, ⟨h1, h2, h3⟩, hf, hj, ht, hr, hc, hR, hE, hEf⟩ := h
  have r2 : gI τ (i2 + 1) = gI σ (i2 + 1) := o.row fun k z => (hS _ _ z).2.2.1 rfl
  have ra : gI τ (20 + 4 * t + 1) = gI σ (20 + 4 * t + 1) := o.row fun k z => (hS _ _ z).2.2.2.1 rfl
  have rb : gI τ (20 + 4 * t + 2) = gI σ (20 + 4 * t + 2) := o.row fun k z => (hS _ _ z).2.2.2.2 rfl
  refine ⟨h0, hl, ⟨?_, ?_, ?_⟩, by rw [r2]; exact hf, by rw [r2]; exact hj, ht, ?_, ?_, by rw [o.2.2]; exact hR, by rw [ra, rb]; exact hE, hEf⟩
  · rw [o.1 0 1 fun z => (hS _ _ z).1 ⟨rfl, Or.inl rfl⟩]; exact h1
  · rw [o.1 1 1 fun z => (hS _ _ z).2.1 ⟨Or.inl rfl, rfl⟩]; exact h2
  · rw [o.1 i2 1 fun z => (hS _ _ z).2.1 ⟨Or.inr rfl, rfl⟩]; exact h3
  · rw [o.1 0 2 fun z => (hS _ _ z).1 ⟨rfl, Or.inr (Or.inl rfl)⟩]; exact hr
  · rw [o.1 0 12 fun z => (hS _ _ z).1 ⟨rfl, Or.inr (Or.inr rfl)⟩]; exact hc
theorem CM.off {n lks t : Nat} {e : Nat → Vf} {υ τ : HS} {S : Nat → Nat → Prop} (h : CM n lks t e υ) (o : Off S υ τ) (hS : ∀ i k, S i k → ¬ (i = 0 ∧ (k = 4 ∨ k = 8 ∨ k = 9)) ∧ i ≠ 4 ∧ i ≠ 1 ∧ i ≠ 2) : CM n lks t e τ := by
  obtain ⟨h0, hl, ⟨h1, h2⟩, hf, hj, hr, hE, hEf⟩ := h
  have r4 : gI τ 4 = gI υ 4 := o.row fun k z => (hS _ _ z).2.1 rfl
  have r1 : gI τ 1 = gI υ 1 := o.row fun k z => (hS _ _ z).2.2.1 rfl
  have r2 : gI τ 2 = gI υ 2 := o.row fun k z => (hS _ _ z).2.2.2 rfl
  refine ⟨h0, hl, ⟨?_, ?_⟩, by rw [r4]; exact hf, by rw [r4]; exact hj, ?_, by rw [r1, r2]; exact hE, hEf⟩
  · rw [o.1 0 8 fun z => (hS _ _ z).1 ⟨rfl, Or.inr (Or.inl rfl)⟩]; exact h1
  · rw [o.1 0 9 fun z => (hS _ _ z).1 ⟨rfl, Or.inr (Or.inr rfl)⟩]; exact h2
  · rw [o.1 0 4 fun z => (hS _ _ z).1 ⟨rfl, Or.inl rfl⟩]; exact hr
