/-! PLAN, PLANS -/
theorem mkPlan_I {σ : HS} {j : Nat} {kd nm : Int32} : (∀ i k, i ≠ j → i ≠ j + 1 → gI (mkPlan σ j kd nm) i k = gI σ i k) ∧ (∀ i k, i ≠ j + 1 → gJ (mkPlan σ j kd nm) i k = gJ σ i k) ∧ (∀ i k, gR (mkPlan σ j kd nm) i k = gR σ i k) ∧ gI (mkPlan σ j kd nm) j 0 = kd ∧ gI (mkPlan σ j kd nm) j 1 = nm ∧ gI (mkPlan σ j kd nm) (j + 1) 0 = 0 := by
  have hI : ∀ i k, gI (mkPlan σ j kd nm) i k = gI (sI (sI (sI (sI (sI (sI (sI (sI σ j 0 kd) j 1 nm) (j + 1) 0 0) (j + 1) 1 0) (j + 1) 2 0) (j + 1) 3 0) (j + 1) 4 0) (j + 1) 5 0) i k := fun i k => rfl
  refine ⟨fun i k h1 h2 => ?_, fun i k h => ?_, fun _ _ => rfl, ?_, ?_, ?_⟩
  · rw [hI, sI_i h2, sI_i h2, sI_i h2, sI_i h2, sI_i h2, sI_i h2, sI_i h1, sI_i h1]
  · rw [mkPlan, gJ_sJ, if_neg (fun z => h z.1)]; rfl
  · rw [hI, sI_i (by omega), sI_i (by omega), sI_i (by omega), sI_i (by omega), sI_i (by omega), sI_i (by omega), sI_k (by omega), sI_at]
  · rw [hI, sI_i (by omega), sI_i (by omega), sI_i (by omega), sI_i (by omega), sI_i (by omega), sI_i (by omega), sI_at]
  · rw [hI, sI_k (by omega), sI_k (by omega), sI_k (by omega), sI_k (by omega), sI_k (by omega), sI_at]
theorem Op_plan {pc : Nat} {σ υ : HS} (p1 p2 : Int32) (h : RelE pc σ υ) : ∃ r σ' υ' pc', c_X8_plan p1 p2 σ = some (r, σ') ∧ c_X9_plan p1 p2 υ = some (r, υ') ∧ RelE pc' σ' υ' ∧ (∀ i k, 44 ≤ i ∧ i < 52 → gI σ' i k = gI σ i k) ∧ (∀ i k, 10 ≤ i ∧ i ≤ 13 → gI υ' i k = gI υ i k) := by
  have hh := h
  obtain ⟨n, lks, tc, t, ev, H⟩ := h
  obtain ⟨hL, ⟨h1, h2, h3, h4, h5, h6, h7⟩, hTa⟩ := H
  have hP := h1
  obtain ⟨hc, hp, hp2, hpl⟩ := hP
  have bad : ∀ v : Int32, ∃ r σ' υ' pc', some (v, σ) = some (r, σ') ∧ some (v, υ) = some (r, υ') ∧ RelE pc' σ' υ' ∧ (∀ i k, 44 ≤ i ∧ i < 52 → gI σ' i k = gI σ i k) ∧ (∀ i k, 10 ≤ i ∧ i ≤ 13 → gI υ' i k = gI υ i k) := fun v => ⟨_, σ, υ, pc, rfl, rfl, hh, fun _ _ _ => rfl, fun _ _ _ => rfl⟩
  have i5 : c_X9_in p1.toInt64 0 5 υ = some (if p1 < 0 then 0 else if 5 < p1 then 0 else 1, υ) := in_is (a := 0) (b := 5)
  have i11 : c_X9_in p2.toInt64 0 11 υ = some (if p2 < 0 then 0 else if 11 < p2 then 0 else 1, υ) := in_is (a := 0) (b := 11)
  rw [c_X8_plan, c_X9_plan, x_kind, i5, bi2_s, bi2_s]
  rcases rng_cases p1 5 (by omega) with z | ⟨z, z2⟩ | ⟨q, hq, rfl⟩
  · rw [if_pos z, if_pos rfl, if_pos rfl]; exact bad _
  · rw [if_neg z, if_pos (show (5 : Int32) < p1 from z2), if_pos rfl, if_pos rfl]; exact bad _
  rw [has_kind q (by omega), if_neg one_ne, if_neg one_ne, i11, bi2_s]
  rcases rng_cases p2 11 (by omega) with z | ⟨z, z2⟩ | ⟨w, hw, rfl⟩
  · rw [if_pos z, if_pos z, if_pos rfl]; exact bad _
  · rw [if_neg z, if_neg (show ¬ p2 ≤ 11 from fun y => le_iff_nlt.mp y z2), if_neg z, if_pos (show (11 : Int32) < p2 from z2), if_pos rfl]; exact bad _
  have n11 : ¬ 11 < nI w := by rw [show (11 : Int32) = nI 11 from rfl, nI_ltI (by omega) (by omega)]; omega
  rw [if_neg (nI_pos (by omega)), if_pos (show nI w ≤ 11 from le_iff_nlt.mpr n11), if_neg (nI_pos (by omega)), if_neg n11, if_neg one_ne, hp, hp2]
  by_cases c8 : pc = 8
  · subst c8
    rw [if_neg (by decide), if_pos (show nI 8 = 8 from rfl)]
    exact bad _
  have ic := inb_nI (show pc < 8 by omega) (show 8 < 2 ^ 31 by omega)
  rw [if_pos (by rw [show (8 : Int32) = nI 8 from rfl, nI_ltI (by omega) (by omega)]; omega), if_pos ic, if_neg (show ¬ nI pc = 8 from fun z => c8 (nI_inj (by omega) (show 8 < 2 ^ 31 by omega) z)), if_pos ic, lt_eqq, lt_eqq, lt_eqq, sI_i (σ := υ) (i := 5) (j := 0) (m := 26) (by omega), hp2, if_pos ic, lt_eqq, lt_eqq, ix_nI (by omega)]
  obtain ⟨mI, mJ, mR, m0, m1, mt⟩ := mkPlan_I (σ := σ) (j := 76 + 2 * pc) (kd := nI q) (nm := nI w)
  obtain ⟨s1, es1⟩ : ∃ z, z = sR (mkPlan σ (76 + 2 * pc) (nI q) (nI w)) 7 pc (some (76 + 2 * pc)) := ⟨_, rfl⟩
  have sI1 : ∀ i k, gI s1 i k = gI (mkPlan σ (76 + 2 * pc) (nI q) (nI w)) i k := fun i k => by rw [es1]; rfl
  have s08 : gI s1 0 8 = nI pc := by rw [sI1, mI 0 8 (by omega) (by omega)]; exact hp
  have u26 : gI (sI (sI υ 5 pc (nI q)) 6 pc (nI w)) 0 26 = nI pc := by rw [sI_i (by omega), sI_i (by omega)]; exact hp2
  rw [← es1, s08, u26, sI_at, sI_at, nI_1, nI_pred]
  have A : ∀ i k, (i ≠ 76 + 2 * pc ∧ i ≠ 76 + 2 * pc + 1 ∧ ¬ (i = 0 ∧ k = 8)) → gI (sI s1 0 8 (nI (pc + 1))) i k = gI σ i k := fun i k z => by
    rw [gI_sI, if_neg z.2.2, sI1, mI i k z.1 z.2.1]
  have J : ∀ i k, i ≠ 76 + 2 * pc + 1 → gJ (sI s1 0 8 (nI (pc + 1))) i k = gJ σ i k := fun i k z => by
    rw [gJ_sI, es1, gJ_sR, mJ i k z]
  have G : ∀ i k, i ≠ 7 → gR (sI s1 0 8 (nI (pc + 1))) i k = gR σ i k := fun i k z => by
    rw [gR_sI, es1, gR_sR, if_neg (by omega), mR]
  have B : ∀ i k, (i ≠ 5 ∧ i ≠ 6 ∧ ¬ (i = 0 ∧ k = 26)) → gI (sI (sI (sI υ 5 pc (nI q)) 6 pc (nI w)) 0 26 (nI (pc + 1))) i k = gI υ i k := fun i k z => by
    rw [gI_sI, if_neg z.2.2, gI_sI, if_neg (by omega), gI_sI, if_neg (by omega)]
  refine ⟨_, _, _, pc + 1, rfl, rfl, ⟨n, lks, tc, t, ev, hL.of (fun i k z => A i k (by omega)) (fun i k z => B i k (by omega)), ⟨⟨by omega, sI_at _ _ _ _, sI_at _ _ _ _, fun k hk => ?_⟩, h2.of (fun i k z => A i k (by omega)) (fun i k z => B i k (by omega)) (fun k => G _ _ (by omega)), h3.of (A _ _ (by omega)) (B _ _ (by omega)), h4.of (fun i k z => A i k (by omega)) (fun i k z => B i k (by omega)), h5.of (fun i k z => A i k (by omega)) (fun i k z => B i k (by omega)), h6.of (fun i k z => A i k (by omega)) (fun i k z => B i k (by omega)) (fun k => G _ _ (by omega)), h7.of (fun i k z => A i k (by omega)) (fun k => G _ _ (by omega))⟩, hTa.1.same (fun k => A _ _ (by omega)) (fun k => J _ _ (by omega)), hTa.2.1.same (fun k => A _ _ (by omega)) (fun j k hj => G _ _ (by omega)), fun p hp3 q' w' hq' hw' e1 e2 => ?_⟩, fun i k z => A i k (by omega), fun i k z => B i k (by omega)⟩
  · by_cases c : k = pc
    · subst c
      refine ⟨?_, q, w, hq, hw, ?_, ?_, ?_, ?_⟩
      · rw [gR_sI, es1, gR_sR, if_pos ⟨rfl, rfl⟩]
      · rw [sI_i (by omega), sI1]; exact m0
      · rw [sI_i (by omega), sI1]; exact m1
      · rw [sI_i (by omega), sI_i (by omega), sI_at]
      · rw [sI_i (by omega), sI_at]
    · obtain ⟨b0, q', w', b1, b2, b3, b4, b5, b6⟩ := hpl k (by omega)
      refine ⟨?_, q', w', b1, b2, ?_, ?_, ?_, ?_⟩
      · rw [gR_sI, es1, gR_sR, if_neg (by omega), mR]; exact b0
      · rw [A _ _ (by omega)]; exact b3
      · rw [A _ _ (by omega)]; exact b4
      · rw [sI_i (by omega), sI_i (by omega), sI_k c]; exact b5
      · rw [sI_i (by omega), sI_k c, sI_i (by omega)]; exact b6
  · by_cases c : p = pc
    · subst c
      refine Or.inl ?_
      rw [sI_i (by omega), sI1]; exact mt
    · rw [A _ _ (by omega)] at e1 e2
      exact (hTa.2.2 p (by omega) q' w' hq' hw' e1 e2).same (fun k => A _ _ (by omega)) (fun k => J _ _ (by omega))
theorem pl_le {sz k a : Nat} (hz : sz ≤ 40) (hk : k ≤ 8) (ha : a < 2 ^ 31) : (nI a ≤ nI sz - 2 * nI k - 2) ↔ a + 2 * k + 2 ≤ sz := by
  have e1 : (2 * nI k : Int32) = nI (2 * k) := by rw [show (2 : Int32) = nI 2 from rfl, nI_mul]
  have e2 : (nI sz - nI (2 * k)).toInt = (sz : Int) - (2 * k : Nat) := by
    rw [Int32.toInt_sub, nI_toInt (by omega), nI_toInt (by omega), Int.bmod_eq_of_le (by omega) (by omega)]
  rw [e1, Int32.le_iff_toInt_le, Int32.toInt_sub, e2, show (2 : Int32).toInt = 2 by decide, nI_toInt ha, Int.bmod_eq_of_le (by omega) (by omega)]
  omega
theorem Op_plans {pc : Nat} {σ υ : HS} (p1 p2 p3 p4 : Int32) (h : RelE pc σ υ) : ∃ r σ' υ' pc', c_X8_plans p1 p2 p3 p4 σ = some (r, σ') ∧ c_X9_plans p1 p2 p3 p4 υ = some (r, υ') ∧ RelE pc' σ' υ' := by
  have hh := h
  obtain ⟨n, lks, tc, t, ev, H⟩ := h
  have hS : RSh σ υ := H.2.1.2.2.2.2.2.1
  have bad : ∀ v : Int32, ∃ r σ' υ' pc', some (v, σ) = some (r, σ') ∧ some (v, υ) = some (r, υ') ∧ RelE pc' σ' υ' := fun v => ⟨_, σ, υ, pc, rfl, rfl, hh⟩
  have i8 : c_X9_in p4.toInt64 0 8 υ = some (if p4 < 0 then 0 else if 8 < p4 then 0 else 1, υ) := in_is (a := 0) (b := 8)
  rw [c_X8_plans, c_X9_plans, m_shAt, bi2_s]
  rcases x_shAt (p := p1) hS with ⟨c, e1⟩ | ⟨s, hs, rfl, e1⟩
  · rw [e1, bi2_s, mo_0, sh_no c, if_pos rfl]; exact bad _
  have is4 := inb_nI hs (show 4 < 2 ^ 31 by omega)
  rw [e1, bi2_s, mo_1, sh_yes hs, if_neg one_ne, in_02, bi2_s]
  by_cases c1 : p2 < 0
  · rw [if_pos c1, if_pos c1, if_pos rfl]; exact bad _
  rw [if_neg c1, if_neg c1]
  by_cases c2 : 2 < p2
  · rw [if_pos c2, if_pos c2, if_pos rfl]; exact bad _
  rw [if_neg c2, if_neg c2, if_neg one_ne, i8, bi2_s]
  rcases rng_cases p4 8 (by omega) with z | ⟨z, z2⟩ | ⟨m, hm, rfl⟩
  · rw [if_pos z, if_pos z, if_pos rfl]; exact bad _
  · rw [if_neg z, if_neg (show ¬ p4 ≤ 8 from fun y => le_iff_nlt.mp y z2), if_neg z, if_pos (show (8 : Int32) < p4 from z2), if_pos rfl]; exact bad _
  have n8 : ¬ 8 < nI m := by rw [show (8 : Int32) = nI 8 from rfl, nI_ltI (by omega) (by omega)]; omega
  rw [if_neg (nI_pos (by omega)), if_pos (show nI m ≤ 8 from le_iff_nlt.mpr n8), if_neg (nI_pos (by omega)), if_neg n8, if_neg one_ne, if_pos is4, if_pos is4, ix_nI (by omega), miss_x, bi2_s, c_X9_plans_57, if_pos is4, ix_nI (by omega)]
  rcases (hS s hs).2 with ⟨z1, z2⟩ | ⟨z0, so, sz, z1, z2, z3, z4, z5, z6, z7⟩
  · rw [if_pos z1, if_neg one_ne, z2, if_pos rfl, if_pos rfl]; exact bad _
  have nz : ¬ gI σ (44 + 2 * s) 1 = -1 := by rw [z3]; exact nI_neg (by omega)
  rw [if_neg nz, if_pos rfl, z0, if_neg one_ne, if_neg one_ne, z3, z5]
  by_cases c3 : nI so = p2
  · rw [if_pos c3, if_pos c3]
    have L : ∀ (d F F2 k : Nat) (a : Int32) (cnt : Int32) (σ1 υ1 : HS) (pc1 : Nat), k + d = m → d + 1 ≤ F → d + 1 ≤ F2 → (k = 0 ∨ ∃ a0, a = nI a0 ∧ a0 ≤ 40) → RelE pc1 σ1 υ1 → (∀ i k, 44 ≤ i ∧ i < 52 → gI σ1 i k = gI σ i k) → (∀ i k, 10 ≤ i ∧ i ≤ 13 → gI υ1 i k = gI υ i k) → ∃ r σ' υ' pc', c_X8_plans_68 F (44 + 2 * s) (nI m) cnt (a + nI (2 * k)) (nI k) σ1 = some (r, σ') ∧ c_X9_plans_75 F2 (nI s) a (nI m) cnt (nI k) υ1 = some (r, υ') ∧ RelE pc' σ' υ' := by
      intro d
      induction d with
      | zero =>
        intro F F2 k a cnt σ1 υ1 pc1 hk hF hF2 ha R X Y
        obtain ⟨F, rfl⟩ : ∃ F', F = F' + 1 := ⟨F - 1, by omega⟩
        obtain ⟨F2, rfl⟩ : ∃ F', F2 = F' + 1 := ⟨F2 - 1, by omega⟩
        rw [c_X8_plans_68, c_X9_plans_75, if_pos (by rw [nI_leI (by omega) (by omega)]; omega), if_pos (by rw [nI_leI (by omega) (by omega)]; omega)]
        exact ⟨_, σ1, υ1, pc1, rfl, rfl, R⟩
      | succ d ih =>
        intro F F2 k a cnt σ1 υ1 pc1 hk hF hF2 ha R X Y
        obtain ⟨F, rfl⟩ : ∃ F', F = F' + 1 := ⟨F - 1, by omega⟩
        obtain ⟨F2, rfl⟩ : ∃ F', F2 = F' + 1 := ⟨F2 - 1, by omega⟩
        have g2 : gI σ1 (44 + 2 * s) 2 = nI sz := by rw [X _ _ (by omega)]; exact z4
        have y12 : gI υ1 12 s = nI sz := by rw [Y _ _ (by omega)]; exact z6
        have no : ∀ v : Int32, ∃ r σ' υ' pc', some (v, σ1) = some (r, σ') ∧ some (v, υ1) = some (r, υ') ∧ RelE pc' σ' υ' := fun v => ⟨_, σ1, υ1, pc1, rfl, rfl, R⟩
        rw [c_X8_plans_68, c_X9_plans_75, if_neg (by rw [nI_leI (by omega) (by omega)]; omega), if_neg (by rw [nI_leI (by omega) (by omega)]; omega), if_pos is4, ix_nI (by omega), y12]
        -- whether the pair lies there, by both
        have dec : (∃ a0, a = nI a0 ∧ a0 + 2 * k + 2 ≤ sz ∧ c_X3_hasAll (44 + 2 * s) (a + nI (2 * k)) 2 σ1 = some (1, σ1)) ∨ ((a < 0 ∨ (¬ a < 0 ∧ ¬ a ≤ nI sz - 2 * nI k - 2)) ∧ c_X3_hasAll (44 + 2 * s) (a + nI (2 * k)) 2 σ1 = some (0, σ1)) := by
          rcases x_hasAll (p := a + nI (2 * k)) (q := 2) z2 g2 with ⟨b, m', eb, em, hbm, ex⟩ | ⟨cc, ex⟩
          · have : m' = 2 := (nI_inj (show 2 < 2 ^ 31 by omega) (by omega) (show nI 2 = nI m' from em)).symm
            subst this
            rcases ha with rfl | ⟨a0, rfl, ha0⟩
            · rw [Nat.mul_zero, nI_0, Int32.add_zero] at eb
              exact Or.inl ⟨b, eb, by omega, ex⟩
            · rw [nI_add] at eb
              have := nI_inj (by omega) (by omega) eb
              exact Or.inl ⟨a0, rfl, by omega, ex⟩
          · refine Or.inr ⟨?_, ex⟩
            by_cases c : a < 0
            · exact Or.inl c
            · refine Or.inr ⟨c, fun z => ?_⟩
              obtain ⟨a0, ha0, rfl⟩ := nI_of c
              rw [pl_le z2 (by omega) ha0] at z
              rcases cc with y | y | ⟨b, m', hb, hm', eb, em, hbm⟩
              · rw [nI_add] at y
                exact nI_pos (by omega) y
              · exact absurd y (by decide)
              · have e2 : m' = 2 := (nI_inj (show 2 < 2 ^ 31 by omega) hm' (show nI 2 = nI m' from em)).symm
                rw [nI_add] at eb
                have := nI_inj (by omega) hb eb
                omega
        rcases dec with ⟨a0, rfl, ha0, ex⟩ | ⟨cc, ex⟩
        · have l1 : nI a0 + nI (2 * k) = nI (a0 + 2 * k) := nI_add _ _
          rw [ex, bi2_s, if_neg one_ne, if_neg (nI_pos (by omega)), if_pos ((pl_le z2 (by omega) (by omega)).mpr ha0), l1, nI_1, x3_at g2 z2 (by omega), bi2_s, x3_at g2 z2 (by omega), bi2_s]
          have ei : ((40 : Int32) * nI s + nI a0 + 2 * nI k) = nI (40 * s + a0 + 2 * k) := by
            rw [show (40 : Int32) = nI 40 from rfl, show (2 : Int32) = nI 2 from rfl, nI_mul, nI_mul, nI_add, nI_add]
          rw [ei, nI_1, if_pos (inb_nI (by omega) (by omega)), if_pos (inb_nI (by omega) (by omega)), ix_nI (by omega), ix_nI (by omega)]
          have v1 : gI υ1 13 (40 * s + a0 + 2 * k) = gI σ1 (44 + 2 * s + 1) (a0 + 2 * k) := by
            rw [Y _ _ (by omega), X _ _ (by omega), z7 _ (by omega)]
            exact congrArg (gI υ 13) (by omega)
          have v2 : gI υ1 13 (40 * s + a0 + 2 * k + 1) = gI σ1 (44 + 2 * s + 1) (a0 + 2 * k + 1) := by
            rw [Y _ _ (by omega), X _ _ (by omega), z7 _ (by omega)]
            exact congrArg (gI υ 13) (by omega)
          obtain ⟨r, σ2, υ2, pc2, e2, e3, R2, X2, Y2⟩ := Op_plan (gI σ1 (44 + 2 * s + 1) (a0 + 2 * k)) (gI σ1 (44 + 2 * s + 1) (a0 + 2 * k + 1)) R
          rw [v1, v2, e2, e3, bi2_s, bi2_s, c_X8_plans_115, c_X8_plans_115, c_X9_plans_154, c_X9_plans_154, nI_1, show nI (a0 + 2 * k) + 2 = nI a0 + nI (2 * (k + 1)) by rw [show (2 : Int32) = nI 2 from rfl, nI_add, nI_add]; exact congrArg nI (by omega)]
          by_cases c4 : r < 0
          · rw [if_pos c4, if_pos c4, Int32.add_zero]
            exact ih F F2 (k + 1) (nI a0) cnt σ2 υ2 pc2 (by omega) (by omega) (by omega) (Or.inr ⟨a0, rfl, by omega⟩) R2 (fun i k z => (X2 i k z).trans (X i k z)) (fun i k z => (Y2 i k z).trans (Y i k z))
          · rw [if_neg c4, if_neg c4]
            exact ih F F2 (k + 1) (nI a0) (cnt + 1) σ2 υ2 pc2 (by omega) (by omega) (by omega) (Or.inr ⟨a0, rfl, by omega⟩) R2 (fun i k z => (X2 i k z).trans (X i k z)) (fun i k z => (Y2 i k z).trans (Y i k z))
        · rw [ex, bi2_s, if_pos rfl]
          rcases cc with c | ⟨c, c'⟩
          · rw [if_pos c]; exact no _
          · rw [if_neg c, if_neg c']; exact no _
    have := L m 9 FU 0 p3 0 σ υ pc (by omega) (by omega) (by rw [FU]; omega) (Or.inl rfl) hh (fun _ _ _ => rfl) (fun _ _ _ => rfl)
    rw [Nat.mul_zero, nI_0, Int32.add_zero] at this
    exact this
  · rw [if_neg c3, if_neg c3]; exact bad _
