theorem nI_any (v : Int32) : ∃ W, v = nI W := ⟨v.toBitVec.toNat, by
  apply Int32.toBitVec_inj.mp
  show v.toBitVec = BitVec.ofNat 32 v.toBitVec.toNat
  rw [BitVec.ofNat_toNat, BitVec.setWidth_eq]⟩
def Zd (t i k : Nat) : Prop := i = 5 ∨ i = 6 ∨ i = 16 ∨ SXt t i k ∨ i = 18
theorem X_ldL {n lks t tc : Nat} {e : Nat → Vf} (hn7 : n ≤ 7) (hN : facN n ≤ 5040) : ∀ (k F m : Nat) (x : Int32) (σ : HS), k + 2 ≤ F → m + k + 1 = facN n → CX n lks t tc e 5 σ → RFx σ → Chn n k (gI σ 6) → gI σ 18 0 = nI n → gI σ 18 4 = x → ∃ τ, c_X8_leastDraws_74 F (lN (facN n)) (lN m) σ = some (all n (dst e n lks) k (gI σ 6) x, τ) ∧ gI τ 18 4 = all n (dst e n lks) k (gI σ 6) x ∧ Off (Zd t) σ τ ∧ (∀ j, j < 3 → gI τ 18 j = gI σ 18 j) := by
  intro k
  induction k with
  | zero =>
    intro F m x σ hF hm hC hX hch h0 hx
    obtain ⟨F, rfl⟩ : ∃ F', F = F' + 1 + 1 := ⟨F - 2, by omega⟩
    have hn := hC.1.2
    have ht6 : t < 6 := by have := hC.2.2.2.2.2.1; omega
    rw [c_X8_leastDraws_74, if_neg (by rw [lg_cmp_ge, lN_le (by omega) (by omega)]; omega), hx]
    by_cases x0 : x = 0
    · rw [if_pos x0, x0, all_0 hn]
      exact ⟨σ, rfl, by rw [hx, x0], Off.rf, fun _ _ => rfl⟩
    · obtain ⟨s1, e1, o1⟩ := X_dr (Or.inr rfl) hC hX
      have o1' : ∀ i k, (Zn 5 i k ∨ Zh t i k) → (i = 5 ∧ 2 ≤ k) ∨ i = 16 ∨ (i = 20 + 4 * t ∧ k = 4) ∨ i = 20 + 4 * t + 3 := fun i k z => by unfold Zn Zh SXt at z; omega
      have C1 := hC.off o1 (fun i k z => by have := o1' _ _ z; omega)
      have g18 : ∀ k, gI s1 18 k = gI σ 18 k := fun k => o1.1 _ _ fun z => by have := o1' _ _ z; omega
      have r1 : gI s1 6 = gI σ 6 := o1.row fun k z => by have := o1' _ _ z; omega
      obtain ⟨W, hW⟩ := nI_any (gI s1 18 3)
      obtain ⟨s2, e2, T2, o2⟩ := X_add (h := nI (dcn e n lks (gI σ (5 + 1)) n)) (i0 := 18) (i2 := 5) (n := n) (x := (W, gJ s1 18 6, x, gI s1 18 5)) (σ := s1) ⟨hW, rfl, by rw [g18]; exact hx, rfl⟩ (by rw [g18]; exact h0) C1.2.2.1.2.2 hn (by omega)
      have r2 : gI s2 6 = gI σ 6 := by rw [← r1]; exact o2.row fun k z => by unfold Za at z; omega
      have s21 : gI s2 5 1 = nI n := by rw [o2.1 _ _ (by unfold Za; omega)]; exact C1.2.2.1.2.2
      have adv := x_adv (i0 := 5) s21 hn hC.1.1 (by rw [show (5 + 1 : Nat) = 6 from rfl, r2]; exact hC.2.2.2.1)
      rw [show (5 + 1 : Nat) = 6 from rfl, r2, show nxf n (gI σ 6) = none from hch] at adv
      have v4 : gI s2 18 4 = dst e n lks (gI σ 6) x := T2.2.2.1
      refine ⟨s2, ?_, v4, (o1.mono fun i k z => by unfold Zn Zh at z; unfold Zd; rcases z with (z | z) | z | z; exact Or.inl z.1; exact Or.inr (Or.inr (Or.inl z)); exact Or.inr (Or.inr (Or.inr (Or.inl z))); exact Or.inr (Or.inr (Or.inl z))).tr (o2.mono fun i k z => by unfold Za at z; unfold Zd; omega), fun j hj => by rw [o2.1 _ _ (by unfold Za; omega), g18]⟩
      rw [if_neg x0, e1, bi2_s, e2, bi1_s, adv, bi1_s, lN_1, c_X8_leastDraws_74, if_pos (by rw [lg_cmp_ge, lN_le (by omega) (by omega)]; omega), v4]
      rfl
  | succ k ih =>
    intro F m x σ hF hm hC hX hch h0 hx
    obtain ⟨F, rfl⟩ : ∃ F', F = F' + 1 := ⟨F - 1, by omega⟩
    have hn := hC.1.2
    have ht6 : t < 6 := by have := hC.2.2.2.2.2.1; omega
    rw [c_X8_leastDraws_74, if_neg (by rw [lg_cmp_ge, lN_le (by omega) (by omega)]; omega), hx]
    by_cases x0 : x = 0
    · rw [if_pos x0, x0, all_0 hn]
      exact ⟨σ, rfl, by rw [hx, x0], Off.rf, fun _ _ => rfl⟩
    · obtain ⟨s1, e1, o1⟩ := X_dr (Or.inr rfl) hC hX
      have o1' : ∀ i k, (Zn 5 i k ∨ Zh t i k) → (i = 5 ∧ 2 ≤ k) ∨ i = 16 ∨ (i = 20 + 4 * t ∧ k = 4) ∨ i = 20 + 4 * t + 3 := fun i k z => by unfold Zn Zh SXt at z; omega
      have C1 := hC.off o1 (fun i k z => by have := o1' _ _ z; omega)
      have X1 : RFx s1 := hX.off (o1.mono fun i k z => by have := o1' _ _ z; unfold Wt Wa; omega)
      have g18 : ∀ k, gI s1 18 k = gI σ 18 k := fun k => o1.1 _ _ fun z => by have := o1' _ _ z; omega
      have r1 : gI s1 6 = gI σ 6 := o1.row fun k z => by have := o1' _ _ z; omega
      obtain ⟨W, hW⟩ := nI_any (gI s1 18 3)
      obtain ⟨s2, e2, T2, o2⟩ := X_add (h := nI (dcn e n lks (gI σ (5 + 1)) n)) (i0 := 18) (i2 := 5) (n := n) (x := (W, gJ s1 18 6, x, gI s1 18 5)) (σ := s1) ⟨hW, rfl, by rw [g18]; exact hx, rfl⟩ (by rw [g18]; exact h0) C1.2.2.1.2.2 hn (by omega)
      have C2 := C1.off o2 (fun i k z => by unfold Za at z; omega)
      have X2 : RFx s2 := X1.off (o2.mono fun i k z => by unfold Za at z; unfold Wt; omega)
      have r2 : gI s2 6 = gI σ 6 := by rw [← r1]; exact o2.row fun k z => by unfold Za at z; omega
      obtain ⟨g, hg, hch'⟩ := hch
      have adv := x_adv (i0 := 5) C2.2.2.1.2.2 hn hC.1.1 C2.2.2.2.1
      rw [show (5 + 1 : Nat) = 6 from rfl, r2, hg] at adv
      have kp := nxf_keep hC.1.1 hC.2.2.2.1 hC.2.2.2.2.1 hg
      have g6 : gI (sA s2 6 g) 6 = g := gI_row _ _ _
      have gne : ∀ i, i ≠ 6 → gI (sA s2 6 g) i = gI s2 i := fun i hi => gI_rowne hi
      have C4 : CX n lks t tc e 5 (sA s2 6 g) := by
        obtain ⟨c0, cl, ⟨c1, c2, c3⟩, cf, cj, ct, cr, cc, cR, cE, cEf⟩ := C2
        exact ⟨c0, cl, ⟨by rw [gne 0 (by omega)]; exact c1, by rw [gne 1 (by omega)]; exact c2, by rw [gne 5 (by omega)]; exact c3⟩, by rw [g6]; exact kp.1, by rw [g6]; exact kp.2, ct, by rw [gne 0 (by omega)]; exact cr, by rw [gne 0 (by omega)]; exact cc, cR, by rw [gne _ (by omega), gne _ (by omega)]; exact cE, cEf⟩
      have X4 : RFx (sA s2 6 g) := X2.off (Off.sA fun k => by unfold Wt Wa; omega)
      have v4 : gI s2 18 4 = dst e n lks (gI σ 6) x := T2.2.2.1
      obtain ⟨τ, e4, q4, o4, k4⟩ := ih F (m + 1) (dst e n lks (gI σ 6) x) (sA s2 6 g) (by omega) (by omega) C4 X4 (by rw [g6]; exact hch') (by rw [gne _ (by omega), o2.1 _ _ (by unfold Za; omega), g18]; exact h0) (by rw [gne _ (by omega)]; exact v4)
      rw [g6] at e4 q4
      refine ⟨τ, ?_, ?_, ?_, ?_⟩
      · rw [if_neg x0, e1, bi2_s, e2, bi1_s, adv, bi1_s, lN_1, all, hg]
        exact e4
      · rw [all, hg]; exact q4
      · refine (o1.mono fun i k z => by unfold Zn Zh at z; unfold Zd; rcases z with (z | z) | z | z; exact Or.inl z.1; exact Or.inr (Or.inr (Or.inl z)); exact Or.inr (Or.inr (Or.inr (Or.inl z))); exact Or.inr (Or.inr (Or.inl z))).tr ((o2.mono fun i k z => by unfold Za at z; unfold Zd; omega).tr (Off.tr (Off.sA fun k => ?_) o4))
        exact Or.inr (Or.inl rfl)
      · intro j hj
        rw [k4 j hj, gne _ (by omega), o2.1 _ _ (by unfold Za; omega), g18]
theorem X_ld {n lks t tc : Nat} {ev : Nat → Nat → Vf} {σ : HS} (h : CX n lks t tc (ev t) 1 σ) (hX : RFx σ) (hn7 : n ≤ 7) (hD : DOK ev tc σ) : ∃ τ, c_X8_leastDraws σ = some (dfin (ev t) n lks, τ) ∧ DOK ev tc τ ∧ Off (Zd t) σ τ := by
  have hC := h
  obtain ⟨⟨h0, hn⟩, hl, ⟨h1, h2, h3⟩, hf, hj, ht, hr, hc, hR, hE, hEf⟩ := h
  rw [c_X8_leastDraws, h1, h2, hr, x_isOf, bi2_s, if10]
  by_cases c : gI σ 18 0 = nI n ∧ gI σ 18 1 = nI lks ∧ gI σ 18 2 = nI t
  · rw [if_pos (dec_t c)]
    have hD2 := hD
    rcases hD.2 with z | ⟨n', l', r', a1, a2, a3, ⟨a4, a5, a6⟩, a7⟩
    · rw [z, ← nI_0] at c
      have := nI_inj (by omega) (by omega) c.1
      omega
    · have e1 := nI_inj (by omega) (by omega) (a4.symm.trans c.1)
      have e2 := nI_inj (by omega) (by omega) (a5.symm.trans c.2.1)
      have e3 := nI_inj (by omega) (by omega) (a6.symm.trans c.2.2)
      subst e1; subst e2; subst e3
      rw [a7]
      exact ⟨σ, rfl, hD2, Off.rf⟩
  · rw [if_neg (dec_f c)]
    obtain ⟨s1, e1, g1, T1, o1⟩ := x_begin (i := 18) (a := n) (b := lks) (c := t) (σ := σ)
    have s11 : gI s1 1 1 = nI n := by rw [o1.1 _ _ (by omega)]; exact h2
    have e2 := x_own (i0 := 5) (σ := s1) h0 hn
    obtain ⟨s2, es2⟩ : ∃ z, z = sA (sI s1 5 1 (nI n)) (5 + 1) (own n (gI s1 (5 + 1)) 0) := ⟨_, rfl⟩
    rw [← es2] at e2
    have o2 : Off (fun i _ => i = 5 ∨ i = 6) s1 s2 := by rw [es2]; exact Off_own5 (Or.inl rfl) (fun _ => Or.inr rfl)
    have r6 : gI s2 6 = own n (gI s1 6) 0 := by rw [es2]; exact gI_row _ _ _
    have s51 : gI s2 5 1 = nI n := by rw [es2, gI_rowne (by omega), sI_at]
    have C1 : CX n lks t tc (ev t) 1 s1 := hC.off o1 (fun i k z => by omega)
    have C2 : CX n lks t tc (ev t) 5 s2 := by
      have C2 := C1.off o2 (fun i k z => by omega)
      obtain ⟨c0, cl, ⟨c1, c2, c3⟩, cf, cj, ct, cr, cc, cR, cE, cEf⟩ := C2
      exact ⟨c0, cl, ⟨c1, c2, s51⟩, by rw [show 5 + 1 = 6 from rfl, r6]; exact own_VL, by rw [show 5 + 1 = 6 from rfl, r6]; exact own_VJ hn, ct, cr, cc, cR, cE, cEf⟩
    have X2 : RFx s2 := (hX.off (o1.mono fun i k z => by unfold Wt; omega)).off (o2.mono fun i k z => by unfold Wt Wa; omega)
    have g2 : ∀ k, gI s2 18 k = gI s1 18 k := fun k => o2.1 _ _ (by omega)
    obtain ⟨hJ, hN, hN0⟩ := facJ_N h0 hn7
    have ow : ∀ k, k < n → gI s2 6 k = nI k := fun k hk => by rw [r6, own, if_pos ⟨by omega, hk⟩]
    obtain ⟨τ, e3, q3, o3, k3⟩ := X_ldL hn7 hN (facN n - 1) FU 0 (-1) s2 (by rw [FU]; omega) (by omega) C2 X2 (own_chn h0 hn7 ow) (by rw [g2]; exact g1.1) (by rw [g2]; exact T1.2.2.1)
    have ea : all n (dst (ev t) n lks) (facN n - 1) (gI s2 6) (-1) = dfin (ev t) n lks := by
      rw [dfin]
      exact all_alk h0 (dst_alk hn) (facN n - 1) (gI s2 6) _ _ C2.2.2.2.1 C2.2.2.2.2.1 ow
    rw [ea] at e3 q3
    refine ⟨τ, ?_, ⟨fun j k hj => by rw [o3.2.2, o2.2.2, o1.2.2]; exact hD.1 j k hj, Or.inr ⟨n, lks, t, ⟨h0, hn7⟩, hl, ht.1, ⟨?_, ?_, ?_⟩, q3⟩⟩, ?_⟩
    · rw [h1, h2, hr, e1, bi1_s, s11, e2, bi1_s, C2.2.2.1.2.1, x_fac h0 hn, bi2_s, hJ]
      exact e3
    · rw [k3 0 (by omega), g2]; exact g1.1
    · rw [k3 1 (by omega), g2]; exact g1.2.1
    · rw [k3 2 (by omega), g2]; exact g1.2.2
    · exact (o1.mono fun i k z => by unfold Zd; omega).tr ((o2.mono fun i k z => by unfold Zd; omega).tr o3)
theorem M_ldL {n lks t : Nat} {e : Nat → Vf} (hn7 : n ≤ 7) : ∀ (k F : Nat) (x : Int32) (υ : HS), k + 2 ≤ F → (0 ≤ x ∧ x ≠ -1) → CM n lks t e υ → Chn n k (gI υ 4) → ∃ τ, c_X9_draws_41 F x 1 υ = c_X9_draws_72 (all n (dst e n lks) k (gI υ 4) x) τ ∧ Off (fun i k => Zg i k ∨ i = 4) υ τ := by
  have stp1 : ∀ (F : Nat) (x : Int32) (υ : HS), x ≠ -1 → CM n lks t e υ → ∃ s, c_X9_draws_41 (F + 1) x 1 υ = c_X9_draws_63 (fun z0 z1 z2 => c_X9_draws_41 F z0 z1 z2) (dst e n lks (gI υ 4) x) s ∧ Off Zg υ s := by
    intro F x υ hx hC
    obtain ⟨s, e1, o1⟩ := M_dr hC
    refine ⟨s, ?_, o1⟩
    rw [c_X9_draws_41, if_neg one_ne, e1, bi2_s, dst, if_neg hx]
    by_cases c : x ≤ nI (dcn e n lks (gI υ 4) n)
    · rw [if_pos c, if_pos c]
    · rw [if_neg c, if_neg c]
  have pos : ∀ (f : Nat → Int32) (x : Int32), (0 ≤ x ∧ x ≠ -1) → n ≤ 7 → 0 ≤ dst e n lks f x ∧ dst e n lks f x ≠ -1 := by
    intro f x hx hn
    have hle := dcn_le (e := e) (n := n) (lks := lks) (f := f) n
    have h2 : 0 ≤ nI (dcn e n lks f n) ∧ nI (dcn e n lks f n) ≠ -1 := ⟨nI_pos' (by omega), nI_neg (by omega)⟩
    rw [dst, if_neg hx.2]
    by_cases c : x ≤ nI (dcn e n lks f n)
    · rw [if_pos c]; exact hx
    · rw [if_neg c]; exact h2
  intro k
  induction k with
  | zero =>
    intro F x υ hF hx hC hch
    obtain ⟨F, rfl⟩ : ∃ F', F = F' + 1 + 1 := ⟨F - 2, by omega⟩
    obtain ⟨s, e1, o1⟩ := stp1 (F + 1) x υ hx.2 hC
    have C1 := hC.off o1 (fun i k z => by unfold Zg at z; omega)
    have r1 : gI s 4 = gI υ 4 := o1.row fun k z => by unfold Zg at z; omega
    have adv := m_adv C1.2.2.1.1 hC.1.2 hC.1.1
    rw [r1, show nxf n (gI υ 4) = none from hch] at adv
    refine ⟨s, ?_, o1.mono fun i k z => Or.inl z⟩
    rw [e1, c_X9_draws_63, adv]
    rfl
  | succ k ih =>
    intro F x υ hF hx hC hch
    obtain ⟨F, rfl⟩ : ∃ F', F = F' + 1 := ⟨F - 1, by omega⟩
    obtain ⟨s, e1, o1⟩ := stp1 F x υ hx.2 hC
    have C1 := hC.off o1 (fun i k z => by unfold Zg at z; omega)
    have r1 : gI s 4 = gI υ 4 := o1.row fun k z => by unfold Zg at z; omega
    obtain ⟨g, hg, hch'⟩ := hch
    have adv := m_adv C1.2.2.1.1 hC.1.2 hC.1.1
    rw [r1, hg] at adv
    have kp := nxf_keep hC.1.1 hC.2.2.2.1 hC.2.2.2.2.1 hg
    have g6 : gI (sA s 4 g) 4 = g := gI_row _ _ _
    have gne : ∀ i, i ≠ 4 → gI (sA s 4 g) i = gI s i := fun i hi => gI_rowne hi
    have C5 : CM n lks t e (sA s 4 g) := by
      obtain ⟨c0, cl, ⟨c1, c2⟩, cf, cj, cr, cE, cEf⟩ := C1
      exact ⟨c0, cl, ⟨by rw [gne 0 (by omega)]; exact c1, by rw [gne 0 (by omega)]; exact c2⟩, by rw [g6]; exact kp.1, by rw [g6]; exact kp.2, by rw [gne 0 (by omega)]; exact cr, by rw [gne 1 (by omega), gne 2 (by omega)]; exact cE, cEf⟩
    obtain ⟨τ, e5, o5⟩ := ih F (dst e n lks (gI υ 4) x) (sA s 4 g) (by omega) (pos _ x hx hn7) C5 (by rw [g6]; exact hch')
    rw [g6] at e5
    refine ⟨τ, ?_, (o1.mono fun i k z => Or.inl z).tr (Off.tr (Off.sA fun k => Or.inr rfl) o5)⟩
    rw [e1, c_X9_draws_63, adv, bi2_s, all, hg]
    exact e5
theorem M_ld {n lks t : Nat} {e : Nat → Vf} {υ : HS} (hC : CM n lks t e υ) (hn7 : n ≤ 7) : ∃ s1 τ, c_X9_putsAside υ = some s1 ∧ c_X9_draws_41 FU 12 1 s1 = some (dfin e n lks, τ) ∧ Off Zq υ τ ∧ alk n (gI υ 4) (gI τ 4) := by
  obtain ⟨s1, e1, a1, -, o1⟩ := m_asideL FU 0 υ (by rw [FU]; omega) (by omega)
  have r4 : ∀ k, k < 12 → gI s1 4 k = nI k := fun k hk => (a1 k (Nat.zero_le _) hk).2
  have C2 : CM n lks t e s1 := by
    obtain ⟨c0, cl, ⟨c1, c2⟩, cf, cj, cr, cE, cEf⟩ := hC
    have k0 : ∀ i k, (i = 0 ∨ i = 1 ∨ i = 2) → gI s1 i k = gI υ i k := fun i k hk => o1.1 _ _ (by omega)
    have kr : ∀ i, (i = 1 ∨ i = 2) → gI s1 i = gI υ i := fun i hi => funext fun k => k0 i k (by omega)
    refine ⟨c0, cl, ⟨by rw [k0 0 8 (by omega)]; exact c1, by rw [k0 0 9 (by omega)]; exact c2⟩, fun b hb => ?_, fun a b ha hb h1 h2 => ?_, by rw [k0 0 4 (by omega)]; exact cr, by rw [kr 1 (Or.inl rfl), kr 2 (Or.inr rfl)]; exact cE, cEf⟩
    · rw [r4 b (by omega)]; exact Or.inr ⟨b, hb, rfl⟩
    · rw [r4 a (by omega), r4 b (by omega)] at h1
      exact nI_inj (by omega) (by omega) h1
  obtain ⟨hJ, hN, hN0⟩ := facJ_N hC.1.1 hn7
  have ow : ∀ k, k < n → gI s1 4 k = nI k := fun k hk => r4 k (by omega)
  obtain ⟨s3, e3, o3⟩ := M_ldL hn7 (facN n - 1) FU 12 s1 (by rw [FU]; omega) (by decide) C2 (own_chn hC.1.1 hn7 ow)
  obtain ⟨s4, e4, b4, -, o4⟩ := m_backL FU 0 s3 (by rw [FU]; omega) (by omega)
  have k8 : ∀ k, gI s3 8 k = gI s1 8 k := fun k => o3.1 _ _ (by unfold Zg; omega)
  refine ⟨s1, s4, e1, ?_, ?_, fun k hk => ?_⟩
  · rw [e3, c_X9_draws_72, show c_X9_laysBack s3 = some s4 from e4, bi1_s, all_12 hn7, dfin, all_alk hC.1.1 (dst_alk hC.1.2) (facN n - 1) (gI s1 4) _ _ C2.2.2.2.1 C2.2.2.2.2.1 ow]
  · exact (o1.mono fun i k z => by unfold Zq; omega).tr ((o3.mono fun i k z => by unfold Zg at z; unfold Zq; omega).tr (o4.mono fun i k z => by unfold Zq; omega))
  · rw [b4 k (Nat.zero_le _) (by have := hC.1.2; omega), k8, (a1 k (Nat.zero_le _) (by have := hC.1.2; omega)).1]
theorem Op_draws {pc : Nat} {σ υ : HS} (p1 : Int32) (h : RelE pc σ υ) : ∃ r σ' υ', c_X8_draws p1 σ = some (r, σ') ∧ c_X9_draws p1 υ = some (r, υ') ∧ RelE pc σ' υ' := by
  have hh := h
  obtain ⟨n, lks, tc, t, ev, h⟩ := h
  have H := h
  obtain ⟨⟨⟨h0, hn⟩, hl, hf, hj, ⟨hs, hk⟩, hs2, hk2, e⟩, ⟨_, _, _, _, _, _, hX⟩, hTa⟩ := h
  have bad : ∀ v : Int32, ∃ r σ' υ', some (v, σ) = some (r, σ') ∧ some (v, υ) = some (r, υ') ∧ RelE pc σ' υ' := fun v => ⟨_, σ, υ, rfl, rfl, hh⟩
  have ht6 := H.t6
  rw [c_X8_draws, c_X9_draws, in_01, bi2_s]
  rcases two_cases p1 with c | ⟨c, c2⟩ | ⟨c, c2, c3⟩
  · rw [if_pos c, if_pos c, if_pos rfl]; exact bad _
  · rw [if_neg c, if_neg (fun z => le_iff_nlt.mp z c2), if_neg c, if_pos c2, if_pos rfl]; exact bad _
  rw [if_neg c, if_pos (le_iff_nlt.mpr c2), if_neg c, if_neg c2, if_neg one_ne]
  rcases c3 with rfl | rfl
  · obtain ⟨s1, e1, o1⟩ := X_dr (Or.inl rfl) H.CX hX
    obtain ⟨s2, e2, o2⟩ := M_dr H.CM
    have ed : dcn (ev t) n lks (gI σ (1 + 1)) n = dcn (ev t) n lks (gI υ 4) n := dcn_alk hn hf e n (Nat.le_refl _)
    rw [if_pos rfl, if_pos rfl, e1, bi2_s, e2, bi2_s, ed]
    exact ⟨_, s1, s2, rfl, rfl, n, lks, tc, t, ev, H.scr (S := Zrun t) o1 o2 (fun i k z => Zrun_W ht6 z) (fun i k z => Zg_W z) (by rw [o2.row (i := 4) (fun k z => by unfold Zg at z; omega)]; exact alk_rf)⟩
  · rw [if_neg one_ne, if_neg one_ne, few_x hs hn, few_m hs2 hn, bi2_s, bi2_s]
    by_cases c7 : n ≤ 7
    · obtain ⟨s1, e1, D1, o1⟩ := X_ld H.CX hX c7 hTa.2.1
      obtain ⟨s2, s3, e2, e3, o2, a2⟩ := M_ld H.CM c7
      rw [if_pos c7, if_pos c7, if_pos rfl, if_neg one_ne, e1, bi2_s, e2, bi1_s, e3]
      have hS : ∀ i k, Zd t i k → i = 5 ∨ i = 6 ∨ i = 16 ∨ (i = 20 + 4 * t ∧ k = 4) ∨ i = 20 + 4 * t + 3 ∨ i = 18 := fun i k z => by unfold Zd SXt at z; omega
      refine ⟨_, s1, s3, rfl, rfl, n, lks, tc, t, ev, H.1.off o1 o2 (fun i k z => by have := hS i k z; omega) (fun i k z => by unfold Zq at z; omega) a2, H.2.1.off (o1.mono fun i k z => by have := hS i k z; unfold Wt Wa; omega) (o2.mono fun i k z => by unfold Zq at z; unfold Wm; omega), ?_, D1, fun p hp q w hq hw e1 e2 => ?_⟩
      · exact hTa.1.same (fun k => o1.1 _ _ fun z => by have := hS _ _ z; omega) (fun k => o1.2.1 _ _ fun z => by have := hS _ _ z; omega)
      · rw [o1.1 _ _ fun z => by have := hS _ _ z; omega] at e1 e2
        exact (hTa.2.2 p hp q w hq hw e1 e2).same (fun k => o1.1 _ _ fun z => by have := hS _ _ z; omega) (fun k => o1.2.1 _ _ fun z => by have := hS _ _ z; omega)
    · rw [if_neg c7, if_neg c7, if_neg one_ne, if_pos rfl]; exact bad _
