/-! TEXT -/
theorem EvM.congr {T T' : Nat → Int32} {sz : Int32} {t : Nat} {e : Nat → Vf} (h : EvM T sz t e) (hT : ∀ k, 160 * t ≤ k → k < 160 * t + 160 → T' k = T k) : EvM T' sz t e := fun τ h1 h2 wh hwh fd lks => h τ (fun k ka kb => by rw [h1 k ka kb, hT k ka kb]) h2 wh hwh fd lks
theorem Pfl_le {b : Nat → Nat} {sz : Nat} : Pfl (gB b sz) ≤ sz := by
  have w0 := PPt_wf (b := b) (sz := sz) (key := 10006) (p := 0) (Nat.zero_le _) (by omega)
  have w1 := PPt_wf (b := b) (sz := sz) (key := 10007) (p := (P0t (gB b sz)).2.1) w0.1 (by omega)
  have w2 := PPt_wf (b := b) (sz := sz) (key := 10008) (p := (P1t (gB b sz)).2.1) w1.1 (by omega)
  rw [Pfl]
  refine st_le ?_
  by_cases c : (P0t (gB b sz)).1 = true
  · rw [if_pos c]
    by_cases c2 : (P1t (gB b sz)).1 = true
    · rw [if_pos c2]; exact w2.1
    · rw [if_neg c2]; exact w1.1
  · rw [if_neg c]; exact w0.1
theorem m_txL {tc sz : Nat} (ht : tc < 6) (hz : sz ≤ 160) : ∀ (F m i : Nat) (υ : HS), m < F → i + m = sz → gI υ 0 6 = nI sz → gI υ 0 3 = nI tc → ∃ τ, c_X9_text_14 F (nI i) υ = c_X9_text_49 τ ∧ (∀ k, i ≤ k → k < sz → gI τ 1 (160 * tc + k) = gI υ 3 k) ∧ (∀ k, k < 160 * tc + i ∨ 160 * tc + sz ≤ k → gI τ 1 k = gI υ 1 k) ∧ Off (fun i _ => i = 1) υ τ := by
  intro F
  induction F with
  | zero => intro m i υ h; omega
  | succ F ih =>
    intro m i υ hF hi h6 h3
    rw [c_X9_text_14, h6, h3]
    cases m with
    | zero =>
      have : i = sz := by omega
      subst this
      rw [if_pos (by rw [nI_leI (by omega) (by omega)]; omega)]
      exact ⟨υ, rfl, fun k _ _ => by omega, fun _ _ => rfl, Off.rf⟩
    | succ m =>
      obtain ⟨τ, e, k1, k2, o⟩ := ih m (i + 1) (sI υ 1 (160 * tc + i) (gI υ 3 i)) (by omega) (by omega) (by rw [sI_i (by omega)]; exact h6) (by rw [sI_i (by omega)]; exact h3)
      rw [if_neg (by rw [nI_leI (by omega) (by omega)]; omega), if_pos (inb_nI (by omega) (by omega)), show (160 : Int32) = nI 160 from rfl, nI_mul, nI_add, if_pos (inb_nI (by omega) (by omega)), lt_eqq, ix_nI (by omega), ix_nI (by omega), nI_1]
      refine ⟨τ, e, fun k ha hb => ?_, fun k hk => ?_, Off.tr (Off.sI rfl) o⟩
      · by_cases q : k = i
        · subst q
          rw [k2 _ (by omega), sI_at]
        · rw [k1 k (by omega) hb, sI_i (by omega)]
      · rw [k2 k (by omega), sI_k (by omega)]
theorem TOK.up {ev ev' : Nat → Nat → Vf} {tc i q w : Nat} {σ : HS} (h : TOK ev tc i q w σ) (he : ∀ r, r < tc → ev' r = ev r) : TOK ev' (tc + 1) i q w σ := by
  rcases h with z | ⟨n, l, r, h1, h2, h3, h4, h5⟩
  · exact Or.inl z
  · exact Or.inr ⟨n, l, r, h1, h2, by omega, h4, by rw [he r h3]; exact h5⟩
theorem DOK.up {ev ev' : Nat → Nat → Vf} {tc : Nat} {σ : HS} (h : DOK ev tc σ) (he : ∀ r, r < tc → ev' r = ev r) : DOK ev' (tc + 1) σ := by
  refine ⟨h.1, ?_⟩
  rcases h.2 with z | ⟨n, l, r, h1, h2, h3, h4, h5⟩
  · exact Or.inl z
  · exact Or.inr ⟨n, l, r, h1, h2, by omega, h4, by rw [he r h3]; exact h5⟩
def ZXt (tc i k : Nat) : Prop := SPy (20 + 4 * tc) i k ∨ (i = 12 ∧ k = 1) ∨ (i = 0 ∧ k = 12)
def ZMt (tc i k : Nat) : Prop := (i = 0 ∧ (k = 3 ∨ k = 6 ∨ (13 ≤ k ∧ k ≤ 23))) ∨ (i = 1 ∧ 160 * tc ≤ k ∧ k < 160 * tc + 160) ∨ (i = 2 ∧ k = tc)
theorem Rel.tx {n lks pc tc t : Nat} {ev : Nat → Nat → Vf} {σ υ σ' υ' : HS} (h : Rel n lks pc tc t ev σ υ) (htc : tc < 6) (A : ∀ i k, ¬ ZXt tc i k → gI σ' i k = gI σ i k) (J : ∀ i k, ¬ ZXt tc i k → gJ σ' i k = gJ σ i k) (G : ∀ i k, i ≠ 14 → gR σ' i k = gR σ i k) (B : ∀ i k, ¬ ZMt tc i k → gI υ' i k = gI υ i k) (t1 : gI σ' 12 1 = 0) (t2 : gI υ' 0 6 = 0)
    (hn : (gI σ' 0 12 = nI tc ∧ gI υ' 0 3 = nI tc) ∨ ((gI σ' 0 12 = nI (tc + 1) ∧ gI υ' 0 3 = nI (tc + 1)) ∧ ∃ e, Evf e ∧ EvX (gI σ' (20 + 4 * tc + 1)) (gI σ' (20 + 4 * tc + 2)) tc e ∧ EvM (gI υ' 1) (gI υ' 2 tc) tc e)) : RelE pc σ' υ' := by
  obtain ⟨hL, ⟨h1, h2, h3, h4, h5, h6, h7⟩, hTa⟩ := h
  have NX : ∀ i k, (i ≠ 14 ∧ i ≠ 20 + 4 * tc ∧ i ≠ 20 + 4 * tc + 1 ∧ i ≠ 20 + 4 * tc + 2 ∧ ¬ (i = 12 ∧ k = 1) ∧ ¬ (i = 0 ∧ k = 12)) → ¬ ZXt tc i k := fun i k z y => by unfold ZXt SPy SPx at y; omega
  have tp : RTp σ' υ' := ⟨0, by omega, t1, t2, fun k hk => by omega⟩
  have hL' : RLy n lks σ' υ' := hL.of (fun i k z => A i k (NX _ _ (by omega))) (fun i k z => B i k (by unfold ZMt; omega))
  have hP' : RPl pc σ' υ' := h1.of (fun i k z => A i k (NX _ _ (by omega))) (fun i k z => B i k (by unfold ZMt; omega)) (fun k => G _ _ (by omega))
  have hS' : RSh σ' υ' := h6.of (fun i k z => A i k (NX _ _ (by omega))) (fun i k z => B i k (by unfold ZMt; omega)) (fun k => G _ _ (by omega))
  have hF' : RFx σ' := h7.of (fun i k z => A i k (NX _ _ (by omega))) (fun k => G _ _ (by omega))
  have hI' : RIm tc σ' υ' := h5.of (fun i k z => A i k (NX _ _ (by omega))) (fun i k z => B i k (by unfold ZMt; omega))
  have hU' : RRu tc t σ' υ' := h3.of (A _ _ (NX _ _ (by omega))) (B _ _ (by unfold ZMt; omega))
  have hT' : RTa tc pc ev σ' := hTa.of (fun i k z => A i k (NX _ _ (by omega))) (fun i k z => J i k (NX _ _ (by omega))) (fun i k z => G i k (by omega))
  have old : ∀ u, u < tc → Evf (ev u) ∧ EvX (gI σ' (20 + 4 * u + 1)) (gI σ' (20 + 4 * u + 2)) u (ev u) ∧ EvM (gI υ' 1) (gI υ' 2 u) u (ev u) := by
    intro u hu
    obtain ⟨a, b, c⟩ := h2.2.2.2 u hu
    refine ⟨a, ?_, ?_⟩
    · rw [show gI σ' (20 + 4 * u + 1) = gI σ (20 + 4 * u + 1) from funext fun k => A _ k (NX _ _ (by omega)), show gI σ' (20 + 4 * u + 2) = gI σ (20 + 4 * u + 2) from funext fun k => A _ k (NX _ _ (by omega))]
      exact b
    · rw [B 2 u (by unfold ZMt; omega)]
      exact c.congr fun k ka kb => B 1 k (by unfold ZMt; omega)
  have refs : ∀ u, u < 6 → gR σ' 11 u = some (20 + 4 * u) := fun u hu => by rw [G _ _ (by omega)]; exact h2.2.2.1 u hu
  rcases hn with ⟨n1, n2⟩ | ⟨⟨n1, n2⟩, e, e1, e2, e3⟩
  · exact ⟨n, lks, tc, t, ev, hL', ⟨hP', ⟨h2.1, ⟨n1, n2⟩, refs, old⟩, hU', tp, hI', hS', hF'⟩, hT'⟩
  · have he : ∀ r, r < tc → (fun u => if u = tc then e else ev u) r = ev r := fun r hr => if_neg (by omega)
    refine ⟨n, lks, tc + 1, t, fun u => if u = tc then e else ev u, hL', ⟨hP', ⟨by omega, ⟨n1, n2⟩, refs, fun u hu => ?_⟩, ⟨by have := hU'.1; omega, hU'.2⟩, tp, ?_, hS', hF'⟩, hT'.1.up he, hT'.2.1.up he, fun p hp q w hq hw a1 a2 => (hT'.2.2 p hp q w hq hw a1 a2).up he⟩
    · by_cases c : u = tc
      · subst c
        rw [show (fun v => if v = u then e else ev v) u = e from if_pos rfl]
        exact ⟨e1, e2, e3⟩
      · rw [he u (by omega)]
        exact old u (by omega)
    · rcases hI' with z | ⟨z1, z2, n', l', t', a1, a2, a3, a4⟩
      · exact Or.inl z
      · exact Or.inr ⟨z1, z2, n', l', t', a1, a2, by omega, a4⟩
theorem Op_text {pc : Nat} {σ υ : HS} (h : RelE pc σ υ) : ∃ r σ' υ', c_X8_text σ = some (r, σ') ∧ c_X9_text υ = some (r, υ') ∧ RelE pc σ' υ' := by
  have hh := h
  obtain ⟨n, lks, tc, t, ev, H⟩ := h
  obtain ⟨⟨h1, h6⟩, ⟨x12, y3⟩, refs, _⟩ := H.2.1.2.1
  obtain ⟨sz, hz, t1, t2, tb⟩ := H.2.1.2.2.2.1
  rw [c_X8_text, c_X9_text, x12, y3]
  by_cases c : tc = 6
  · subst c
    rw [if_neg (by decide), if_pos (show nI 6 = 6 from rfl)]
    exact ⟨_, σ, υ, rfl, rfl, hh⟩
  have htc : tc < 6 := by omega
  obtain ⟨b, hb⟩ : ∃ b : Nat → Nat, b = fun k => ix (gI σ 13 k) := ⟨_, rfl⟩
  have hB : sz ≤ 160 ∧ ∀ k, k < sz → b k < 256 := ⟨hz, fun k hk => by
    obtain ⟨v, hv, e1, _⟩ := tb k hk
    rw [hb]
    show ix (gI σ 13 k) < 256
    rw [e1, ix_nI (by omega)]
    exact hv⟩
  have bx : ∀ k, k < sz → gI σ 13 k = nI (b k) := fun k hk => by
    obtain ⟨v, hv, e1, _⟩ := tb k hk
    rw [hb]
    show gI σ 13 k = nI (ix (gI σ 13 k))
    rw [e1, ix_nI (by omega)]
  have bm : ∀ k, k < sz → gI υ 3 k = nI (b k) := fun k hk => by
    obtain ⟨v, hv, e1, e2⟩ := tb k hk
    rw [hb]
    show gI υ 3 k = nI (ix (gI σ 13 k))
    rw [e1, ix_nI (by omega), e2]
  rw [if_pos (by rw [show (6 : Int32) = nI 6 from rfl, nI_ltI (by omega) (by omega)]; exact htc), if_pos (inb_nI htc (by omega)), ix_nI (by omega), refs tc htc, mr_s, if_neg (show ¬ nI tc = 6 from fun z => c (nI_inj (by omega) (show 6 < 2 ^ 31 by omega) z))]
  obtain ⟨x, s1, e1, hx, A1, J1, G1⟩ := x_readText (b := b) (sz := sz) (j := 20 + 4 * tc) (σ := σ) hB t1 bx (by omega)
  obtain ⟨u1, f1, k1, k2, o1⟩ := m_txL htc hz FU sz 0 υ (by rw [FU]; omega) (by omega) t2 y3
  obtain ⟨u2, eu2⟩ : ∃ z, z = sI (sI u1 2 tc (nI sz)) 0 6 0 := ⟨_, rfl⟩
  have q6 : gI u1 0 6 = nI sz := by rw [o1.1 _ _ (by omega)]; exact t2
  have q3 : gI u1 0 3 = nI tc := by rw [o1.1 _ _ (by omega)]; exact y3
  have w3 : gI u2 0 3 = nI tc := by rw [eu2, sI_k (by omega), sI_i (by omega)]; exact q3
  have w2 : gI u2 2 tc = nI sz := by rw [eu2, sI_i (by omega), sI_at]
  have w1 : ∀ k, k < sz → gI u2 1 (160 * tc + k) = nI (b k) := fun k hk => by rw [eu2, sI_i (by omega), sI_i (by omega), k1 k (Nat.zero_le _) hk, bm k hk]
  obtain ⟨y, u3, f3, hy, o3⟩ := m_read (wh := 0) (fd := 0) (lks := 0) (τ := u2) hB htc w2 w1 (by omega)
  have B0 : ∀ i k, ¬ ZMt tc i k → gI u3 i k = gI υ i k := by
    intro i k z
    rw [o3.1 i k (fun y => z (by unfold SR at y; unfold ZMt; omega)), eu2, gI_sI, if_neg (fun y => z (by unfold ZMt; omega)), gI_sI, if_neg (fun y => z (by unfold ZMt; omega))]
    by_cases c1 : i = 1
    · subst c1
      exact k2 k (by unfold ZMt at z; omega)
    · exact o1.1 i k c1
  have n1 : gI u3 1 = gI u2 1 := o3.row fun k z => by unfold SR at z; omega
  have n2 : gI u3 2 = gI u2 2 := o3.row fun k z => by unfold SR at z; omega
  have v3 : gI u3 0 3 = nI tc := by rw [o3.1 0 3 (by unfold SR; omega)]; exact w3
  have v6 : gI u3 0 6 = 0 := by rw [o3.1 0 6 (by unfold SR; omega), eu2, sI_at]
  have d49 : c_X9_text_49 u1 = (if gI u3 0 20 = 0 then some (gI u3 0 3 + 1 - 1, sI u3 0 3 (gI u3 0 3 + 1)) else some (-100 - gI u3 0 21, u3)) := by
    rw [c_X9_text_49, q3, if_pos (inb_nI htc (by omega)), lt_eqq, lt_eqq, ix_nI (by omega), q6, ← eu2, w3, show c_X9_read (nI tc) 0 0 0 u2 = _ from f3, bi2_s, lt_eqq, sI_at]
  have s012 : gI s1 0 12 = nI tc := by rw [A1 0 12 (by unfold SPy SPx; omega)]; exact x12
  have ca : ∀ i k, ¬ ZXt tc i k → gI (sI s1 12 1 0) i k = gI σ i k := by
    intro i k z
    rw [gI_sI, if_neg (fun y => z (by unfold ZXt; omega))]
    exact A1 i k fun y => z (Or.inl y)
  rw [show c_X9_text_14 FU 0 υ = _ from f1, d49, e1, bi2_s, c_X5_clear, lt_eqq, bi1_s]
  have back : ∀ v : Int32, nI tc + 1 - 1 = nI tc := fun _ => by rw [nI_1, nI_pred]
  rcases hx with ⟨hP, rfl, hcs, hcl, g0, g1, g2⟩ | ⟨hP, rfl⟩
  · rcases hy with ⟨_, _, b0⟩ | ⟨z, _⟩
    · rw [if_pos rfl, lt_eqq, if_pos b0, v3, sI_at, sI_i (by omega), s012]
      refine ⟨_, _, _, rfl, rfl, H.tx htc (fun i k z => ?_) (fun i k z => J1 i k fun y => z (Or.inl y)) (fun i k z => G1 i k z) (fun i k z => ?_) ?_ ?_ (Or.inr ⟨⟨?_, ?_⟩, Pvl (gB b sz), evf_of hP, evX_of hP hcl (fun k hk => ?_) ?_ ?_ ?_, ?_⟩)⟩
      · rw [gI_sI, if_neg (fun y => z (by unfold ZXt; omega))]; exact ca i k z
      · rw [gI_sI, if_neg (fun y => z (by unfold ZMt; omega))]; exact B0 i k z
      · rw [sI_i (by omega), sI_at]
      · rw [sI_k (by omega)]; exact v6
      · rw [sI_at, nI_1]
      · rw [sI_at, nI_1]
      · rw [sI_i (by omega), sI_i (by omega)]; exact hcs.2 k hk
      · rw [sI_i (by omega), sI_i (by omega)]; exact g0
      · rw [sI_i (by omega), sI_i (by omega)]; exact g1
      · rw [sI_i (by omega), sI_i (by omega)]; exact g2
      · have r1 : gI (sI u3 0 3 (nI tc + 1)) 1 = gI u2 1 := by rw [← n1]; exact funext fun k => sI_i (by omega)
        rw [r1, sI_i (by omega), n2, w2]
        exact evM_of hP hB htc w1
    · exact absurd hP z
  · rcases hy with ⟨z, _⟩ | ⟨_, b1, b2⟩
    · exact absurd z hP
    · rw [if_neg (nI_neg (by have := Pfl_le (b := b) (sz := sz); omega)), if_neg (by rw [b1]; exact one_ne), b2]
      refine ⟨_, _, _, rfl, rfl, H.tx htc ca (fun i k z => J1 i k fun y => z (Or.inl y)) (fun i k z => G1 i k z) B0 (sI_at _ _ _ _) v6 (Or.inl ⟨?_, v3⟩)⟩
      rw [sI_i (by omega)]; exact s012
