/-! the parts of the relation, each by what it reads -/
theorem RLy.of {n lks : Nat} {σ υ σ' υ' : HS} (h : RLy n lks σ υ) (a : ∀ i k, (i = 1 ∧ k = 1) ∨ (i = 0 ∧ k = 1) ∨ i = 2 → gI σ' i k = gI σ i k) (b : ∀ i k, (i = 0 ∧ (k = 8 ∨ k = 9)) ∨ i = 4 → gI υ' i k = gI υ i k) : RLy n lks σ' υ' := by
  unfold RLy at h ⊢
  rw [show gI σ' 2 = gI σ 2 from funext fun k => a 2 k (Or.inr (Or.inr rfl)), show gI υ' 4 = gI υ 4 from funext fun k => b 4 k (Or.inr rfl), a 1 1 (Or.inl ⟨rfl, rfl⟩), a 0 1 (Or.inr (Or.inl ⟨rfl, rfl⟩)), b 0 8 (Or.inl ⟨rfl, Or.inl rfl⟩), b 0 9 (Or.inl ⟨rfl, Or.inr rfl⟩)]
  exact h
theorem RPl.of {pc : Nat} {σ υ σ' υ' : HS} (h : RPl pc σ υ) (a : ∀ i k, (i = 0 ∧ k = 8) ∨ (76 ≤ i ∧ i % 2 = 0) → gI σ' i k = gI σ i k) (b : ∀ i k, (i = 0 ∧ k = 26) ∨ i = 5 ∨ i = 6 → gI υ' i k = gI υ i k) (r : ∀ k, gR σ' 7 k = gR σ 7 k) : RPl pc σ' υ' := by
  obtain ⟨h0, h1, h2, h3⟩ := h
  refine ⟨h0, by rw [a _ _ (by omega)]; exact h1, by rw [b _ _ (by omega)]; exact h2, fun k hk => ?_⟩
  rw [r, a _ _ (by omega), a _ _ (by omega), b _ _ (by omega), b _ _ (by omega)]
  exact h3 k hk
theorem RTx.of {tc : Nat} {ev : Nat → Nat → Vf} {σ υ σ' υ' : HS} (h : RTx tc ev σ υ) (a : ∀ i k, (i = 0 ∧ k = 12) ∨ (20 ≤ i ∧ i < 44 ∧ (i % 4 = 1 ∨ i % 4 = 2)) → gI σ' i k = gI σ i k) (b : ∀ i k, (i = 0 ∧ k = 3) ∨ i = 1 ∨ i = 2 → gI υ' i k = gI υ i k) (r : ∀ k, gR σ' 11 k = gR σ 11 k) : RTx tc ev σ' υ' := by
  obtain ⟨h0, ⟨h1, h2⟩, h3, h4⟩ := h
  refine ⟨h0, ⟨by rw [a _ _ (by omega)]; exact h1, by rw [b _ _ (by omega)]; exact h2⟩, fun t ht => by rw [r]; exact h3 t ht, fun t ht => ?_⟩
  rw [show gI σ' (20 + 4 * t + 1) = gI σ (20 + 4 * t + 1) from funext fun k => a _ k (by omega), show gI σ' (20 + 4 * t + 2) = gI σ (20 + 4 * t + 2) from funext fun k => a _ k (by omega), show gI υ' 1 = gI υ 1 from funext fun k => b _ k (by omega), show gI υ' 2 = gI υ 2 from funext fun k => b _ k (by omega)]
  exact h4 t ht
theorem RRu.of {tc t : Nat} {σ υ σ' υ' : HS} (h : RRu tc t σ υ) (a : gI σ' 0 2 = gI σ 0 2) (b : gI υ' 0 4 = gI υ 0 4) : RRu tc t σ' υ' := ⟨h.1, by rw [a]; exact h.2.1, by rw [b]; exact h.2.2⟩
theorem RTp.of {σ υ σ' υ' : HS} (h : RTp σ υ) (a : ∀ i k, (i = 12 ∧ k = 1) ∨ i = 13 → gI σ' i k = gI σ i k) (b : ∀ i k, (i = 0 ∧ k = 6) ∨ i = 3 → gI υ' i k = gI υ i k) : RTp σ' υ' := by
  obtain ⟨sz, h0, h1, h2, h3⟩ := h
  refine ⟨sz, h0, by rw [a _ _ (by omega)]; exact h1, by rw [b _ _ (by omega)]; exact h2, fun k hk => ?_⟩
  rw [a _ _ (by omega), b _ _ (by omega)]
  exact h3 k hk
theorem RIm.of {tc : Nat} {σ υ σ' υ' : HS} (h : RIm tc σ υ) (a : ∀ i k, (i = 0 ∧ 4 ≤ k ∧ k ≤ 6) ∨ (i = 3 ∧ k = 1) ∨ i = 4 → gI σ' i k = gI σ i k) (b : ∀ i k, (i = 0 ∧ 37 ≤ k ∧ k ≤ 40) ∨ i = 9 → gI υ' i k = gI υ i k) : RIm tc σ' υ' := by
  unfold RIm at h ⊢
  rw [show gI σ' 4 = gI σ 4 from funext fun k => a _ k (by omega), show gI υ' 9 = gI υ 9 from funext fun k => b _ k (by omega), a 0 4 (by omega), a 0 5 (by omega), a 0 6 (by omega), a 3 1 (by omega), b 0 37 (by omega), b 0 38 (by omega), b 0 39 (by omega), b 0 40 (by omega)]
  exact h
theorem RSh.of {σ υ σ' υ' : HS} (h : RSh σ υ) (a : ∀ i k, 44 ≤ i ∧ i < 52 → gI σ' i k = gI σ i k) (b : ∀ i k, 10 ≤ i ∧ i ≤ 13 → gI υ' i k = gI υ i k) (r : ∀ k, gR σ' 15 k = gR σ 15 k) : RSh σ' υ' := by
  intro s hs
  rw [r, show gI σ' (44 + 2 * s) = gI σ (44 + 2 * s) from funext fun k => a _ k (by omega), show gI σ' (44 + 2 * s + 1) = gI σ (44 + 2 * s + 1) from funext fun k => a _ k (by omega), show gI υ' 10 = gI υ 10 from funext fun k => b _ k (by omega), show gI υ' 11 = gI υ 11 from funext fun k => b _ k (by omega), show gI υ' 12 = gI υ 12 from funext fun k => b _ k (by omega), show gI υ' 13 = gI υ 13 from funext fun k => b _ k (by omega)]
  exact h s hs
theorem RFx.of {σ σ' : HS} (h : RFx σ) (a : ∀ i k, (52 ≤ i ∧ i < 76 ∧ i % 2 = 0) ∨ i = 9 → gI σ' i k = gI σ i k) (r : ∀ k, gR σ' 8 k = gR σ 8 k) : RFx σ' := by
  refine ⟨fun k hk => ?_, by rw [a _ _ (by omega)]; exact h.2.1, by rw [a _ _ (by omega)]; exact h.2.2⟩
  rw [r, a _ _ (by omega), a _ _ (by omega)]
  exact h.1 k hk
theorem RTa.of {tc pc : Nat} {ev : Nat → Nat → Vf} {σ σ' : HS} (h : RTa tc pc ev σ) (a : ∀ i k, i = 10 ∨ i = 18 ∨ 76 ≤ i → gI σ' i k = gI σ i k) (j : ∀ i k, i = 10 ∨ 76 ≤ i → gJ σ' i k = gJ σ i k) (r : ∀ i k, 19 ≤ i → gR σ' i k = gR σ i k) : RTa tc pc ev σ' := by
  refine ⟨h.1.same (fun k => a _ _ (by omega)) (fun k => j _ _ (by omega)), h.2.1.same (fun k => a _ _ (by omega)) r, fun p hp q w hq hw e1 e2 => ?_⟩
  rw [a _ _ (by omega)] at e1 e2
  exact (h.2.2 p hp q w hq hw e1 e2).same (fun k => a _ _ (by omega)) (fun k => j _ _ (by omega))
/-! FEED -/
def ZTp (i k : Nat) : Prop := (i = 12 ∧ k = 1) ∨ i = 13
def ZTm (i k : Nat) : Prop := (i = 0 ∧ k = 6) ∨ i = 3
theorem Rel.tp {n lks pc tc t : Nat} {ev : Nat → Nat → Vf} {σ υ σ' υ' : HS} (h : Rel n lks pc tc t ev σ υ) (o : Off ZTp σ σ') (o2 : Off ZTm υ υ') (hT : RTp σ' υ') : Rel n lks pc tc t ev σ' υ' := by
  obtain ⟨hL, ⟨h1, h2, h3, h4, h5, h6, h7⟩, hTa⟩ := h
  have A : ∀ i k, ¬ ZTp i k → gI σ' i k = gI σ i k := o.1
  have B : ∀ i k, ¬ ZTm i k → gI υ' i k = gI υ i k := o2.1
  refine ⟨hL.of (fun i k z => A i k (by unfold ZTp; omega)) (fun i k z => B i k (by unfold ZTm; omega)), ⟨h1.of (fun i k z => A i k (by unfold ZTp; omega)) (fun i k z => B i k (by unfold ZTm; omega)) (fun k => o.2.2 _ _), h2.of (fun i k z => A i k (by unfold ZTp; omega)) (fun i k z => B i k (by unfold ZTm; omega)) (fun k => o.2.2 _ _), h3.of (A _ _ (by unfold ZTp; omega)) (B _ _ (by unfold ZTm; omega)), hT, h5.of (fun i k z => A i k (by unfold ZTp; omega)) (fun i k z => B i k (by unfold ZTm; omega)), h6.of (fun i k z => A i k (by unfold ZTp; omega)) (fun i k z => B i k (by unfold ZTm; omega)) (fun k => o.2.2 _ _), h7.of (fun i k z => A i k (by unfold ZTp; omega)) (fun k => o.2.2 _ _)⟩, hTa.of (fun i k z => A i k (by unfold ZTp; omega)) (fun i k z => o.2.1 i k (by unfold ZTp; omega)) (fun i k _ => o.2.2 i k)⟩
theorem byte_eq (y : Int64) : y.toInt32 &&& 255 = (y &&& 255).toInt32 := by
  rw [Int64.toInt32_and]
  rfl
theorem byte_v (x : Int32) : ∃ v, v < 256 ∧ x &&& 255 = nI v := by
  obtain ⟨v, hv⟩ : ∃ v, v = (x &&& 255).toBitVec.toNat := ⟨_, rfl⟩
  refine ⟨v, ?_, ?_⟩
  · have h : (x &&& 255).toBitVec = x.toBitVec &&& (255 : Int32).toBitVec := Int32.toBitVec_and x 255
    rw [hv, h, BitVec.toNat_and, show (255 : Int32).toBitVec.toNat = 255 by decide]
    have := Nat.and_le_right (n := x.toBitVec.toNat) (m := 255)
    omega
  · apply Int32.toBitVec_inj.mp
    show (x &&& 255).toBitVec = BitVec.ofNat 32 v
    rw [hv, BitVec.ofNat_toNat, BitVec.setWidth_eq]
theorem Op_feed {pc : Nat} {σ υ : HS} (p1 : Int32) (p2 : Int64) (h : RelE pc σ υ) : ∃ r σ' υ', c_X8_feed p1 p2 σ = some (r, σ') ∧ c_X9_feed p1 p2 υ = some (r, υ') ∧ RelE pc σ' υ' := by
  have hh := h
  obtain ⟨n, lks, tc, t, ev, h⟩ := h
  have bad : ∀ v : Int32, ∃ r σ' υ', some (v, σ) = some (r, σ') ∧ some (v, υ) = some (r, υ') ∧ RelE pc σ' υ' := fun v => ⟨_, σ, υ, rfl, rfl, hh⟩
  have i8 : c_X9_in p1.toInt64 1 8 υ = some (if p1 < 1 then 0 else if 8 < p1 then 0 else 1, υ) := in_is (a := 1) (b := 8)
  rw [c_X8_feed, c_X9_feed, i8, bi2_s]
  by_cases c : p1 < 1
  · rw [if_pos c, if_pos c, if_pos rfl]; exact bad _
  rw [if_neg c, if_neg c]
  by_cases c2 : 8 < p1
  · rw [if_neg (fun z => le_iff_nlt.mp z c2), if_pos c2, if_pos rfl]; exact bad _
  rw [if_pos (le_iff_nlt.mpr c2), if_neg c2, if_neg one_ne]
  obtain ⟨m, hm, rfl⟩ : ∃ m, m ≤ 8 ∧ p1 = nI m := by
    rcases rng_cases p1 8 (by omega) with z | ⟨z, z2⟩ | z
    · exact absurd (show p1 < 1 by rw [Int32.lt_iff_toInt_lt] at z ⊢; rw [show (0 : Int32).toInt = 0 by decide] at z; rw [show (1 : Int32).toInt = 1 by decide]; omega) c
    · exact absurd z2 c2
    · exact z
  obtain ⟨sz, hz, t1, t2, t3⟩ := h.2.1.2.2.2.1
  rw [t1, t2, show (160 : Int32) = nI 160 from rfl, nI_sub hz, nI_add]
  by_cases c3 : sz + m ≤ 160
  · rw [if_pos (by rw [nI_leI (by omega) (by omega)]; omega), if_pos (by rw [nI_leI (by omega) (by omega)]; omega)]
    have L : ∀ (d F k s : Nat) (σ1 υ1 : HS), k + d = m → d + 1 ≤ F → s + d ≤ 160 → Rel n lks pc tc t ev σ1 υ1 → gI σ1 12 1 = nI s → gI υ1 0 6 = nI s → ∃ r σ' υ', c_X8_feed_35 F (nI m) p2 (nI k) σ1 = some (r, σ') ∧ c_X9_feed_33 F (nI m) p2 (nI k) υ1 = some (r, υ') ∧ RelE pc σ' υ' := by
      intro d
      induction d with
      | zero =>
        intro F k s σ1 υ1 hk hF hs R g1 g2
        obtain ⟨F, rfl⟩ : ∃ F', F = F' + 1 := ⟨F - 1, by omega⟩
        rw [c_X8_feed_35, c_X9_feed_33, if_pos (by rw [nI_leI (by omega) (by omega)]; omega), if_pos (by rw [nI_leI (by omega) (by omega)]; omega), g1, g2]
        exact ⟨_, σ1, υ1, rfl, rfl, n, lks, tc, t, ev, R⟩
      | succ d ih =>
        intro F k s σ1 υ1 hk hF hs R g1 g2
        obtain ⟨F, rfl⟩ : ∃ F', F = F' + 1 := ⟨F - 1, by omega⟩
        rw [c_X8_feed_35, c_X9_feed_33, if_neg (by rw [nI_leI (by omega) (by omega)]; omega), if_neg (by rw [nI_leI (by omega) (by omega)]; omega), ← byte_eq]
        obtain ⟨v, hv, ev'⟩ := byte_v (Int64.toInt32 (p2 >>> (Int32.toInt64 (8 * nI k) &&& 63)))
        rw [ev', c_X5_add, g1, g2, if_neg (by rw [show (160 : Int32) = nI 160 from rfl, nI_leI (by omega) (by omega)]; omega), if_pos (inb_nI (by omega) (by omega)), if_pos (inb_nI (by omega) (by omega)), ix_nI (by omega), lt_eqq, lt_eqq, lt_eqq, lt_eqq, bi1_s, sI_i (by omega), sI_i (by omega), g1, g2, nI_1, nI_1]
        refine ih F (k + 1) (s + 1) _ _ (by omega) (by omega) (by omega) (R.tp ((Off.sI (Or.inr rfl)).tr (Off.sI (Or.inl ⟨rfl, rfl⟩))) ((Off.sI (Or.inr rfl)).tr (Off.sI (Or.inl ⟨rfl, rfl⟩))) ⟨s + 1, by omega, sI_at _ _ _ _, sI_at _ _ _ _, fun j hj => ?_⟩) (sI_at _ _ _ _) (sI_at _ _ _ _)
        rw [sI_i (σ := sI σ1 13 s (nI v)) (show 13 ≠ 12 by omega), sI_i (σ := sI υ1 3 s (nI v)) (show 3 ≠ 0 by omega)]
        by_cases q : j = s
        · subst q
          exact ⟨v, hv, sI_at _ _ _ _, sI_at _ _ _ _⟩
        · rw [sI_k q, sI_k q]
          obtain ⟨s', hz', t1', t2', t3'⟩ := R.2.1.2.2.2.1
          have : s = s' := nI_inj (by omega) (by omega) (g1.symm.trans t1')
          exact t3' j (by omega)
    exact L m FU 0 sz σ υ (by omega) (by rw [FU]; omega) c3 h t1 t2
  · rw [if_neg (by rw [nI_leI (by omega) (by omega)]; omega), if_neg (by rw [nI_leI (by omega) (by omega)]; omega)]; exact bad _
