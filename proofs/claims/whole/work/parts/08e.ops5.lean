/-! CALLS OVER ALL LAYINGS -/
theorem m_asideL : ∀ (F b : Nat) (σ : HS), 12 - b < F → b ≤ 12 → ∃ τ, c_X9_putsAside_2 F (nI b) σ = some τ ∧ (∀ k, b ≤ k → k < 12 → gI τ 8 k = gI σ 4 k ∧ gI τ 4 k = nI k) ∧ (∀ k, k < b → gI τ 8 k = gI σ 8 k ∧ gI τ 4 k = gI σ 4 k) ∧ Off (fun i _ => i = 4 ∨ i = 8) σ τ := by
  intro F
  induction F with
  | zero => intro b σ h; omega
  | succ F ih =>
    intro b σ hF hb
    rw [c_X9_putsAside_2]
    by_cases c : 12 ≤ b
    · rw [if_pos (by rw [show (12 : Int32) = nI 12 from rfl, nI_leI (by omega) (by omega)]; exact c)]
      exact ⟨σ, rfl, fun k h1 h2 => by omega, fun k _ => ⟨rfl, rfl⟩, Off.rf⟩
    · have i1 := inb_nI (show b < 12 by omega) (by omega)
      rw [if_neg (by rw [show (12 : Int32) = nI 12 from rfl, nI_leI (by omega) (by omega)]; exact c), if_pos i1, if_pos i1, lt_eqq, if_pos i1, lt_eqq, ix_nI (by omega), nI_1]
      obtain ⟨τ, e, h1, h2, o⟩ := ih (b + 1) (sI (sI σ 8 b (gI σ 4 b)) 4 b (nI b)) (by omega) (by omega)
      refine ⟨τ, e, fun k ha hb => ?_, fun k hk => ?_, (Off.sI (Or.inr rfl)).tr (Off.tr (Off.sI (Or.inl rfl)) o)⟩
      · by_cases q : k = b
        · subst q
          obtain ⟨a1, a2⟩ := h2 k (by omega)
          rw [a1, a2, sI_i (by omega), sI_at, sI_at]
          exact ⟨rfl, rfl⟩
        · obtain ⟨a1, a2⟩ := h1 k (by omega) hb
          rw [a1, a2, sI_k (by omega), sI_i (by omega)]
          exact ⟨rfl, rfl⟩
      · obtain ⟨a1, a2⟩ := h2 k (by omega)
        rw [a1, a2, sI_i (by omega), sI_k (by omega), sI_k (by omega), sI_i (by omega)]
        exact ⟨rfl, rfl⟩
theorem m_backL : ∀ (F b : Nat) (σ : HS), 12 - b < F → b ≤ 12 → ∃ τ, c_X9_laysBack_2 F (nI b) σ = some τ ∧ (∀ k, b ≤ k → k < 12 → gI τ 4 k = gI σ 8 k) ∧ (∀ k, k < b → gI τ 4 k = gI σ 4 k) ∧ Off (fun i _ => i = 4) σ τ := by
  intro F
  induction F with
  | zero => intro b σ h; omega
  | succ F ih =>
    intro b σ hF hb
    rw [c_X9_laysBack_2]
    by_cases c : 12 ≤ b
    · rw [if_pos (by rw [show (12 : Int32) = nI 12 from rfl, nI_leI (by omega) (by omega)]; exact c)]
      exact ⟨σ, rfl, fun k h1 h2 => by omega, fun k _ => rfl, Off.rf⟩
    · have i1 := inb_nI (show b < 12 by omega) (by omega)
      rw [if_neg (by rw [show (12 : Int32) = nI 12 from rfl, nI_leI (by omega) (by omega)]; exact c), if_pos i1, if_pos i1, lt_eqq, ix_nI (by omega), nI_1]
      obtain ⟨τ, e, h1, h2, o⟩ := ih (b + 1) (sI σ 4 b (gI σ 8 b)) (by omega) (by omega)
      refine ⟨τ, e, fun k ha hb => ?_, fun k hk => ?_, Off.tr (Off.sI rfl) o⟩
      · by_cases q : k = b
        · subst q
          rw [h2 k (by omega), sI_at]
        · rw [h1 k (by omega) hb, sI_i (by omega)]
      · rw [h2 k (by omega), sI_k (by omega)]
theorem all_d {e : Nat → Vf} {q w n lks : Nat} {d : Int32} {f : Nat → Int32} : ∀ k, all n (stp e q w n lks) k f (0, 0, -1, d) = all n (stp e q w n lks) k f (0, 0, -1, 0) := by
  have h : stp e q w n lks f (0, 0, -1, d) = stp e q w n lks f (0, 0, -1, 0) := by
    rw [stp, stp, upT, upT]
    show (_, _, (if (-1 : Int32) = -1 then _ else _), if (-1 : Int32) = -1 then _ else _) = (_, _, (if (-1 : Int32) = -1 then _ else _), if (-1 : Int32) = -1 then _ else _)
    rw [if_pos rfl, if_pos rfl, if_pos rfl]
  intro k
  cases k with
  | zero => exact h
  | succ k => rw [all, all, h]
def Zq (i k : Nat) : Prop := (i = 0 ∧ ((10 ≤ k ∧ k ≤ 23) ∨ (27 ≤ k ∧ k ≤ 29) ∨ (32 ≤ k ∧ k ≤ 35))) ∨ i = 4 ∨ i = 8
theorem M_goesAll {n lks t q w : Nat} {e : Nat → Vf} {υ : HS} (hC : CM n lks t e υ) (hn7 : n ≤ 7) (hw : w ≤ 11) : ∃ τ, c_X9_goesAll (nI q) (nI w) υ = some τ ∧ TM (fin4 e q w n lks) τ ∧ Off Zq υ τ ∧ alk n (gI υ 4) (gI τ 4) := by
  obtain ⟨s1, e1, a1, -, o1⟩ := m_asideL FU 0 υ (by rw [FU]; omega) (by omega)
  obtain ⟨s2, es2⟩ : ∃ z, z = sI (sJ (sJ s1 0 32 0) 0 33 0) 0 34 (-1) := ⟨_, rfl⟩
  have o2 : Off (fun i k => i = 0 ∧ 32 ≤ k ∧ k ≤ 35) s1 s2 := by
    rw [es2]
    exact (Off.sJ ⟨rfl, by omega, by omega⟩).tr (Off.tr (Off.sJ ⟨rfl, by omega, by omega⟩) (Off.sI ⟨rfl, by omega, by omega⟩))
  have r4 : ∀ k, k < 12 → gI s2 4 k = nI k := fun k hk => by rw [o2.1 _ _ (by omega)]; exact (a1 k (Nat.zero_le _) hk).2
  have r8 : ∀ k, k < 12 → gI s2 8 k = gI υ 4 k := fun k hk => by rw [o2.1 _ _ (by omega)]; exact (a1 k (Nat.zero_le _) hk).1
  have C2 : CM n lks t e s2 := by
    obtain ⟨c0, cl, ⟨c1, c2⟩, cf, cj, cr, cE, cEf⟩ := hC
    have k0 : ∀ k, k < 32 → gI s2 0 k = gI υ 0 k := fun k hk => by rw [o2.1 _ _ (by omega), o1.1 _ _ (by omega)]
    have kr : ∀ i, (i = 1 ∨ i = 2) → gI s2 i = gI υ i := fun i hi => funext fun k => by rw [o2.1 _ _ (by omega), o1.1 _ _ (by omega)]
    refine ⟨c0, cl, ⟨by rw [k0 8 (by omega)]; exact c1, by rw [k0 9 (by omega)]; exact c2⟩, fun b hb => ?_, fun a b ha hb h1 h2 => ?_, by rw [k0 4 (by omega)]; exact cr, by rw [kr 1 (Or.inl rfl), kr 2 (Or.inr rfl)]; exact cE, cEf⟩
    · rw [r4 b (by omega)]; exact Or.inr ⟨b, hb, rfl⟩
    · rw [r4 a (by omega), r4 b (by omega)] at h1
      exact nI_inj (by omega) (by omega) h1
  have T2 : TM (0, 0, -1, gI s2 0 35) s2 := by
    refine ⟨?_, ?_, ?_, rfl⟩
    · rw [es2]; show gJ (sJ (sJ s1 0 32 0) 0 33 0) 0 32 = lN 0
      rw [gJ_sJ, if_neg (by omega), sJ_at]; rfl
    · rw [es2]; show gJ (sJ (sJ s1 0 32 0) 0 33 0) 0 33 = 0
      rw [sJ_at]
    · rw [es2, sI_at]
  obtain ⟨hJ, hN, hN0⟩ := facJ_N hC.1.1 hn7
  have ow : ∀ k, k < n → gI s2 4 k = nI k := fun k hk => r4 k (by omega)
  obtain ⟨s3, e3, T3, o3⟩ := M_goesL (q := q) (w := w) (lks := lks) (t := t) (e := e) hw (facN n - 1) FU _ s2 (by rw [FU]; omega) C2 (own_chn hC.1.1 hn7 ow) T2
  obtain ⟨s4, e4, b4, -, o4⟩ := m_backL FU 0 s3 (by rw [FU]; omega) (by omega)
  have k8 : ∀ k, gI s3 8 k = gI s2 8 k := fun k => o3.1 _ _ (by unfold Zr; omega)
  refine ⟨s4, ?_, ?_, ?_, fun k hk => ?_⟩
  · have d : c_X9_goesAll (nI q) (nI w) υ = bi1 (c_X9_putsAside_2 FU (nI 0) υ) (fun s => c_X9_goesAll_21 FU (nI q) (nI w) 1 (sI (sJ (sJ s 0 32 0) 0 33 0) 0 34 (-1))) := rfl
    rw [d, e1, bi1_s, ← es2, e3, c_X9_goesAll_107]
    rw [show c_X9_laysBack s3 = some s4 from e4]
    rfl
  · rw [fin4, ← all_alk hC.1.1 (stp_alk hC.1.2 hw) (facN n - 1) (gI s2 4) _ _ C2.2.2.2.1 C2.2.2.2.2.1 ow, ← all_d (d := gI s2 0 35)]
    exact ⟨by rw [o4.2.1 _ _ (by omega)]; exact T3.1, by rw [o4.2.1 _ _ (by omega)]; exact T3.2.1, by rw [o4.1 _ _ (by omega)]; exact T3.2.2.1, by rw [o4.1 _ _ (by omega)]; exact T3.2.2.2⟩
  · exact (o1.mono fun i k z => by unfold Zq; omega).tr ((o2.mono fun i k z => by unfold Zq; omega).tr ((o3.mono fun i k z => by unfold Zr at z; unfold Zq; omega).tr (o4.mono fun i k z => by unfold Zq; omega)))
  · rw [b4 k (Nat.zero_le _) (by have := hC.1.2; omega), k8, r8 k (by have := hC.1.2; omega)]
/-- how large what is tallied gets -/
theorem all_nn {e : Nat → Vf} {q w n lks : Nat} (hn : n ≤ 12) : ∀ (k : Nat) (f : Nat → Int32) (x : T4) (S : Nat), x.2.1 = lN S → (all n (stp e q w n lks) k f x).1 ≤ x.1 + (k + 1) ∧ ∃ S', S' ≤ S + (k + 1) * n ∧ (all n (stp e q w n lks) k f x).2.1 = lN S' := by
  have one : ∀ (f : Nat → Int32) (x : T4) (S : Nat), x.2.1 = lN S → (stp e q w n lks f x).1 ≤ x.1 + 1 ∧ ∃ S', S' ≤ S + n ∧ (stp e q w n lks f x).2.1 = lN S' := by
    intro f x S hS
    obtain ⟨v, hv, ev⟩ := Hm_nn (ev := e) (q := q) (w := w) (lks := lks) (f := f) hn
    refine ⟨?_, S + v, by omega, ?_⟩
    · show x.1 + (if Hm e q w n lks f = nI n then 1 else 0) ≤ x.1 + 1
      split <;> omega
    · show x.2.1 + (Hm e q w n lks f).toInt64 = lN (S + v)
      rw [ev, nI_l (by omega), hS, lN_add]
  intro k
  induction k with
  | zero =>
    intro f x S hS
    obtain ⟨h1, S', h2, h3⟩ := one f x S hS
    exact ⟨h1, S', by omega, h3⟩
  | succ k ih =>
    intro f x S hS
    obtain ⟨h1, S', h2, h3⟩ := one f x S hS
    rw [all]
    cases hp : nxf n f with
    | none => exact ⟨by show (stp e q w n lks f x).1 ≤ _; omega, S', by rw [Nat.succ_mul]; omega, h3⟩
    | some g =>
      obtain ⟨i1, S2, i2, i3⟩ := ih g _ S' h3
      refine ⟨?_, S2, by rw [Nat.succ_mul]; omega, i3⟩
      show (all n (stp e q w n lks) k g (stp e q w n lks f x)).1 ≤ _
      omega
theorem fin_nn {e : Nat → Vf} {q w n lks : Nat} (h0 : 0 < n) (hn : n ≤ 7) : (fin4 e q w n lks).1 ≤ 5040 ∧ ∃ S, S ≤ 35280 ∧ (fin4 e q w n lks).2.1 = lN S := by
  obtain ⟨_, hN, hN0⟩ := facJ_N h0 hn
  obtain ⟨h1, S, h2, h3⟩ := all_nn (e := e) (q := q) (w := w) (lks := lks) (n := n) (by omega) (facN n - 1) (fun k => nI k) (0, 0, -1, 0) 0 rfl
  refine ⟨Nat.le_trans h1 (by show 0 + _ ≤ _; omega), S, Nat.le_trans h2 ?_, h3⟩
  have : (facN n - 1 + 1) * n ≤ 5040 * 7 := Nat.mul_le_mul (by omega) hn
  omega
/-- after a plan has been tallied by both -/
theorem Rel.tl {n lks pc tc t i1 : Nat} {ev : Nat → Nat → Vf} {σ υ σ' υ' : HS} (h : Rel n lks pc tc t ev σ υ) (hi1 : i1 = 9 ∨ ∃ p, p < pc ∧ i1 = 76 + 2 * p) (o : Off (Zt t i1) σ σ') (o2 : Off Zq υ υ') (ha : alk n (gI υ 4) (gI υ' 4)) (hT : ∀ q w, q ≤ 5 → w ≤ 11 → gI σ i1 0 = nI q → gI σ i1 1 = nI w → TOK ev tc (i1 + 1) q w σ') : Rel n lks pc tc t ev σ' υ' := by
  have hS : ∀ i k, Zt t i1 i k → i = 5 ∨ i = 6 ∨ i = 16 ∨ (i = 20 + 4 * t ∧ k = 4) ∨ i = 20 + 4 * t + 3 ∨ i = i1 + 1 := by
    intro i k z
    unfold Zt SXt at z
    omega
  have ht6 : t < 6 := by have h1 := h.2.1.2.2.1.1; have h2 := h.2.1.2.1.1.2; omega
  have hpc : pc ≤ 8 := h.2.1.1.1
  have hb : i1 = 9 ∨ (76 ≤ i1 ∧ i1 % 2 = 0) := by
    rcases hi1 with z | ⟨p, hp, z⟩
    · exact Or.inl z
    · exact Or.inr (by omega)
  have hW : ∀ i k, Zt t i1 i k → Wt i k ∧ i ≠ 2 ∧ ¬ (i = 1 ∧ k = 1) ∧ ¬ (i = 0 ∧ k = 1) := by
    clear hi1
    intro i k z
    have := hS i k z
    unfold Wt Wa
    omega
  have hK : ∀ i k, (i = 10 ∨ i = 18 ∨ 76 ≤ i) → i ≠ i1 + 1 → ¬ Zt t i1 i k := by
    clear hi1
    intro i k a b z
    have := hS i k z
    omega
  refine ⟨h.1.off o o2 (fun i k z => (hW i k z).2) (fun i k z => by unfold Zq at z; omega) ha, h.2.1.off (o.mono fun i k z => (hW i k z).1) (o2.mono fun i k z => by unfold Zq at z; unfold Wm; omega), ?_⟩
  have keep : ∀ i q w, i ≠ i1 + 1 → (i = 10 ∨ 77 ≤ i) → TOK ev tc i q w σ → TOK ev tc i q w σ' := fun i q w h1 h2 h3 => h3.same (fun k => o.1 _ _ (hK i k (by clear hi1; omega) h1)) (fun k => o.2.1 _ _ (hK i k (by clear hi1; omega) h1))
  have plan : ∀ p k, gI σ' (76 + 2 * p) k = gI σ (76 + 2 * p) k := fun p k => o.1 _ _ (hK _ _ (by clear hi1; omega) (by clear hi1; omega))
  refine ⟨?_, h.2.2.2.1.same (fun k => o.1 _ _ (hK _ _ (Or.inr (Or.inl rfl)) (by clear hi1; omega))) (fun j k _ => o.2.2 j k), fun p hp q w hq hw e1 e2 => ?_⟩
  · rcases hi1 with rfl | ⟨p, hp, rfl⟩
    · exact hT 2 0 (by omega) (by omega) h.2.1.2.2.2.2.2.2.2.1 h.2.1.2.2.2.2.2.2.2.2
    · exact keep 10 2 0 (by omega) (Or.inl rfl) h.2.2.1
  · rw [plan] at e1 e2
    by_cases c : 76 + 2 * p = i1
    · subst c
      exact hT q w hq hw e1 e2
    · exact keep _ q w (by clear hi1; omega) (Or.inr (by clear hi1; omega)) (h.2.2.2.2 p hp q w hq hw e1 e2)
/-- tallied by both -/
theorem Tl {n lks pc tc t i1 q w : Nat} {ev : Nat → Nat → Vf} {σ υ : HS} (h : Rel n lks pc tc t ev σ υ) (hn7 : n ≤ 7) (hi1 : i1 = 9 ∨ ∃ p, p < pc ∧ i1 = 76 + 2 * p) (hq : q ≤ 5) (hw : w ≤ 11) (hk : gI σ i1 0 = nI q) (hv : gI σ i1 1 = nI w) : ∃ σ' υ', c_X8_tallyOf i1 σ = some (some (i1 + 1), σ') ∧ c_X9_goesAll (nI q) (nI w) υ = some υ' ∧ TV (fin4 (ev t) q w n lks) (i1 + 1) σ' ∧ TM (fin4 (ev t) q w n lks) υ' ∧ Rel n lks pc tc t ev σ' υ' ∧ Off (Zt t i1) σ σ' ∧ Off Zq υ υ' := by
  have hT : TOK ev tc (i1 + 1) q w σ := by
    rcases hi1 with rfl | ⟨p, hp, rfl⟩
    · have e1 := nI_inj (by omega) (by omega) (hk.symm.trans h.2.1.2.2.2.2.2.2.2.1)
      have e2 := nI_inj (by omega) (by omega) (hv.symm.trans h.2.1.2.2.2.2.2.2.2.2)
      subst e1; subst e2
      exact h.2.2.1
    · exact h.2.2.2.2 p hp q w hq hw hk hv
  obtain ⟨σ', e1, V1, K1, o1⟩ := X_tally h.CX hn7 (by rcases hi1 with z | ⟨p, hp, z⟩ <;> omega) hq hw hk hv hT
  obtain ⟨υ', e2, V2, o2, a2⟩ := M_goesAll (q := q) h.CM hn7 hw
  refine ⟨σ', υ', e1, e2, V1, V2, h.tl hi1 o1 o2 a2 (fun q' w' hq' hw' k1 k2 => ?_), o1, o2⟩
  have e1 := nI_inj (by omega) (by omega) (hk.symm.trans k1)
  have e2 := nI_inj (by omega) (by omega) (hv.symm.trans k2)
  subst e1; subst e2
  exact K1
