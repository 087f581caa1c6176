/-! what a plan's tally keeps -/
def TOK (ev : Nat → Nat → Vf) (tc i q w : Nat) (σ : HS) : Prop := gI σ i 0 = 0 ∨ ∃ n l r, (1 ≤ n ∧ n ≤ 7) ∧ (1 ≤ l ∧ l ≤ 12) ∧ r < tc ∧ (gI σ i 0 = nI n ∧ gI σ i 1 = nI l ∧ gI σ i 2 = nI r) ∧ TV (fin4 (ev r) q w n l) i σ
theorem x_isOf {i a b c : Nat} {σ : HS} : c_X4_isOf i (nI a) (nI b) (nI c) σ = some (tf (decide (gI σ i 0 = nI a ∧ gI σ i 1 = nI b ∧ gI σ i 2 = nI c)), σ) := by
  rw [c_X4_isOf]
  by_cases c1 : gI σ i 0 = nI a
  · rw [if_pos c1]
    by_cases c2 : gI σ i 1 = nI b
    · rw [if_pos c2]
      by_cases c3 : gI σ i 2 = nI c
      · rw [if_pos c3, decide_eq_true ⟨c1, c2, c3⟩]; rfl
      · rw [if_neg c3, decide_eq_false (fun z => c3 z.2.2)]; rfl
    · rw [if_neg c2, decide_eq_false (fun z => c2 z.2.1)]; rfl
  · rw [if_neg c1, decide_eq_false (fun z => c1 z.1)]; rfl
theorem x_begin {i a b c : Nat} {σ : HS} : ∃ τ, c_X4_begin i (nI a) (nI b) (nI c) σ = some τ ∧ (gI τ i 0 = nI a ∧ gI τ i 1 = nI b ∧ gI τ i 2 = nI c) ∧ TV (0, 0, -1, 0) i τ ∧ Off (fun j _ => j = i) σ τ := by
  refine ⟨sI (sI (sJ (sI (sI (sI (sI σ i 0 (nI a)) i 1 (nI b)) i 2 (nI c)) i 3 0) i 6 0) i 4 (-1)) i 5 0, rfl, ⟨?_, ?_, ?_⟩, ⟨?_, sJ_at _ _ _ _, ?_, ?_⟩, ?_⟩
  · rw [sI_k (by omega), sI_k (by omega)]
    show gI (sI (sI (sI (sI σ i 0 (nI a)) i 1 (nI b)) i 2 (nI c)) i 3 0) i 0 = nI a
    rw [sI_k (by omega), sI_k (by omega), sI_k (by omega), sI_at]
  · rw [sI_k (by omega), sI_k (by omega)]
    show gI (sI (sI (sI (sI σ i 0 (nI a)) i 1 (nI b)) i 2 (nI c)) i 3 0) i 1 = nI b
    rw [sI_k (by omega), sI_k (by omega), sI_at]
  · rw [sI_k (by omega), sI_k (by omega)]
    show gI (sI (sI (sI (sI σ i 0 (nI a)) i 1 (nI b)) i 2 (nI c)) i 3 0) i 2 = nI c
    rw [sI_k (by omega), sI_at]
  · rw [sI_k (by omega), sI_k (by omega)]
    show gI (sI (sI (sI (sI σ i 0 (nI a)) i 1 (nI b)) i 2 (nI c)) i 3 0) i 3 = nI 0
    rw [sI_at]; rfl
  · rw [sI_k (by omega), sI_at]
  · rw [sI_at]
  · have a : ∀ (υ : HS) (k : Nat) (v : Int32), Off (fun j _ => j = i) υ (sI υ i k v) := fun υ k v => Off.sI rfl
    have b : ∀ (υ : HS) (k : Nat) (v : Int64), Off (fun j _ => j = i) υ (sJ υ i k v) := fun υ k v => Off.sJ rfl
    exact (a _ _ _).tr ((a _ _ _).tr ((a _ _ _).tr ((a _ _ _).tr ((b _ _ _).tr ((a _ _ _).tr (a _ _ _))))))
theorem Off_own5 {S : Nat → Nat → Prop} {σ : HS} {i n : Nat} {f : Nat → Int32} (h1 : S i 1) (h2 : ∀ k, S (i + 1) k) : Off S σ (sA (sI σ i 1 (nI n)) (i + 1) f) := (Off.sI h1).tr (Off.sA h2)
theorem X_tally {n lks t tc i1 q w : Nat} {ev : Nat → Nat → Vf} {σ : HS} (h : CX n lks t tc (ev t) 1 σ) (hn7 : n ≤ 7) (hi1 : i1 = 9 ∨ 76 ≤ i1) (hq : q ≤ 5) (hw : w ≤ 11) (hk : gI σ i1 0 = nI q) (hv : gI σ i1 1 = nI w) (hT : TOK ev tc (i1 + 1) q w σ) : ∃ τ, c_X8_tallyOf i1 σ = some (some (i1 + 1), τ) ∧ TV (fin4 (ev t) q w n lks) (i1 + 1) τ ∧ TOK ev tc (i1 + 1) q w τ ∧ Off (Zt t i1) σ τ := by
  have hC := h
  obtain ⟨⟨h0, hn⟩, hl, ⟨h1, h2, h3⟩, hf, hj, ht, hr, hc, hR, hE, hEf⟩ := h
  rw [c_X8_tallyOf, h1, h2, hr, x_isOf, bi2_s, if10]
  by_cases c : gI σ (i1 + 1) 0 = nI n ∧ gI σ (i1 + 1) 1 = nI lks ∧ gI σ (i1 + 1) 2 = nI t
  · rw [if_pos (dec_t c)]
    refine ⟨σ, rfl, ?_, hT, Off.rf⟩
    rcases hT with z | ⟨n', l', r', a1, a2, a3, ⟨a4, a5, a6⟩, a7⟩
    · rw [z, ← nI_0] at c
      have := nI_inj (by omega) (by omega) c.1
      omega
    · have e1 := nI_inj (by omega) (by omega) (a4.symm.trans c.1)
      have e2 := nI_inj (by omega) (by omega) (a5.symm.trans c.2.1)
      have e3 := nI_inj (by omega) (by omega) (a6.symm.trans c.2.2)
      subst e1; subst e2; subst e3
      exact a7
  · rw [if_neg (dec_f c)]
    obtain ⟨s1, e1, g1, T1, o1⟩ := x_begin (i := i1 + 1) (a := n) (b := lks) (c := t) (σ := σ)
    have s11 : gI s1 1 1 = nI n := by rw [o1.1 _ _ (by omega)]; exact h2
    have e2 := x_own (i0 := 5) (σ := s1) h0 hn
    obtain ⟨s2, es2⟩ : ∃ z, z = sA (sI s1 5 1 (nI n)) (5 + 1) (own n (gI s1 (5 + 1)) 0) := ⟨_, rfl⟩
    rw [← es2] at e2
    have o2 : Off (fun i _ => i = 5 ∨ i = 6) s1 s2 := by rw [es2]; exact Off_own5 (Or.inl rfl) (fun _ => Or.inr rfl)
    have r6 : gI s2 6 = own n (gI s1 6) 0 := by rw [es2]; exact gI_row _ _ _
    have s51 : gI s2 5 1 = nI n := by rw [es2, gI_rowne (by omega), sI_at]
    have C1 : CX n lks t tc (ev t) 1 s1 := hC.off o1 (fun i k z => by omega)
    have C2 : CX n lks t tc (ev t) 5 s2 := by
      have C2 := C1.off o2 (fun i k z => by omega)
      obtain ⟨c0, cl, ⟨c1, c2, c3⟩, cf, cj, ct, cr, cc, cR, cE, cEf⟩ := C2
      exact ⟨c0, cl, ⟨c1, c2, s51⟩, by rw [show 5 + 1 = 6 from rfl, r6]; exact own_VL, by rw [show 5 + 1 = 6 from rfl, r6]; exact own_VJ hn, ct, cr, cc, cR, cE, cEf⟩
    have g2 : ∀ k, gI s2 (i1 + 1) k = gI s1 (i1 + 1) k := fun k => o2.1 _ _ (by omega)
    have j2 : ∀ k, gJ s2 (i1 + 1) k = gJ s1 (i1 + 1) k := fun k => o2.2.1 _ _ (by omega)
    have p2 : ∀ k, gI s2 i1 k = gI σ i1 k := fun k => by rw [o2.1 _ _ (by omega), o1.1 _ _ (by omega)]
    obtain ⟨hJ, hN, hN0⟩ := facJ_N h0 hn7
    have ow : ∀ k, k < n → gI s2 6 k = nI k := fun k hk => by rw [r6, own, if_pos ⟨by omega, hk⟩]
    obtain ⟨τ, e3, T3, o3, k3⟩ := X_tallyL hn7 (by omega) hi1 hq hw hN (facN n - 1) FU 0 (0, 0, -1, 0) s2 (by rw [FU]; omega) (by omega) C2 (own_chn h0 hn7 ow) (by rw [p2]; exact hk) (by rw [p2]; exact hv) (by rw [g2]; exact g1.1) ⟨by rw [g2]; exact T1.1, by rw [j2]; exact T1.2.1, by rw [g2]; exact T1.2.2.1, by rw [g2]; exact T1.2.2.2⟩
    have T4 : TV (fin4 (ev t) q w n lks) (i1 + 1) τ := by
      rw [fin4, ← all_alk h0 (stp_alk hn hw) (facN n - 1) (gI s2 6) _ _ C2.2.2.2.1 C2.2.2.2.2.1 ow]
      exact T3
    refine ⟨τ, ?_, T4, Or.inr ⟨n, lks, t, ⟨h0, hn7⟩, hl, ht.1, ⟨?_, ?_, ?_⟩, T4⟩, ?_⟩
    · rw [h1, h2, hr, e1, bi1_s, s11, e2, bi1_s, C2.2.2.1.2.1, x_fac h0 hn, bi2_s, hJ]
      exact e3
    · rw [k3 0 (by omega), g2]; exact g1.1
    · rw [k3 1 (by omega), g2]; exact g1.2.1
    · rw [k3 2 (by omega), g2]; exact g1.2.2
    · exact (o1.mono fun i k z => by unfold Zt; omega).tr ((o2.mono fun i k z => by unfold Zt; omega).tr o3)
/-! .. and by the reference -/
def TM (x : T4) (υ : HS) : Prop := gJ υ 0 32 = lN x.1 ∧ gJ υ 0 33 = x.2.1 ∧ gI υ 0 34 = x.2.2.1 ∧ gI υ 0 35 = x.2.2.2
def Zr (i k : Nat) : Prop := (i = 0 ∧ ((10 ≤ k ∧ k ≤ 23) ∨ (27 ≤ k ∧ k ≤ 29) ∨ (32 ≤ k ∧ k ≤ 35))) ∨ i = 4
theorem M_step {n lks t q w : Nat} {e : Nat → Vf} {x : T4} {υ : HS} {k21 : Int32 → Int32 → Int32 → HS → Option HS} (hC : CM n lks t e υ) (hw : w ≤ 11) (hT : TM x υ) : ∃ s h, c_X9_goHome (nI q) (nI w) υ = some (h, s) ∧ gI s 0 8 = nI n ∧ h = Hm e q w n lks (gI υ 4) ∧ ∃ τ, (if h = nI n then c_X9_goesAll_52 k21 (nI q) (nI w) h (gJ s 0 32) 1 s else c_X9_goesAll_52 k21 (nI q) (nI w) h (gJ s 0 32) 0 s) = c_X9_goesAll_99 k21 (nI q) (nI w) τ ∧ TM (stp e q w n lks (gI υ 4) x) τ ∧ Off Zr υ τ ∧ gI τ 4 = gI υ 4 ∧ CM n lks t e τ := by
  obtain ⟨s, e1, o1, -, -⟩ := M_gh (q := q) hC hw
  obtain ⟨h32, h33, h34, h35⟩ := hT
  have C1 := hC.off o1 (fun i k z => by unfold Zg at z; omega)
  have r1 : gI s 4 = gI υ 4 := o1.row fun k z => by unfold Zg at z; omega
  have g32 : gJ s 0 32 = lN x.1 := by rw [o1.2.1 _ _ (by unfold Zg; omega)]; exact h32
  have g33 : gJ s 0 33 = x.2.1 := by rw [o1.2.1 _ _ (by unfold Zg; omega)]; exact h33
  have g34 : gI s 0 34 = x.2.2.1 := by rw [o1.1 _ _ (by unfold Zg; omega)]; exact h34
  have g35 : gI s 0 35 = x.2.2.2 := by rw [o1.1 _ _ (by unfold Zg; omega)]; exact h35
  refine ⟨s, _, e1, C1.2.2.1.1, rfl, ?_⟩
  have q1 : ∀ k, 32 ≤ k → k ≤ 35 → Zr 0 k := fun k a b => Or.inl ⟨rfl, Or.inr (Or.inr ⟨a, b⟩)⟩
  have oz : Off Zr υ s := o1.mono fun i k z => by unfold Zg at z; unfold Zr; omega
  have key : ∀ (h : Int32) (add : Nat), h = Hm e q w n lks (gI υ 4) → (if h = nI n then 1 else 0) = add → ∃ τ, c_X9_goesAll_52 k21 (nI q) (nI w) h (gJ s 0 32) (lN add) s = c_X9_goesAll_99 k21 (nI q) (nI w) τ ∧ TM (stp e q w n lks (gI υ 4) x) τ ∧ Off Zr υ τ ∧ gI τ 4 = gI υ 4 ∧ CM n lks t e τ := by
    intro h add hh ha
    obtain ⟨s2, es2⟩ : ∃ z, z = sJ (sJ s 0 32 (lN (x.1 + add))) 0 33 (x.2.1 + h.toInt64) := ⟨_, rfl⟩
    have o2 : Off Zr s s2 := by rw [es2]; exact (Off.sJ (q1 32 (by omega) (by omega))).tr (Off.sJ (q1 33 (by omega) (by omega)))
    have I2 : ∀ i k, gI s2 i k = gI s i k := fun i k => by rw [es2]; rfl
    have J32 : gJ s2 0 32 = lN (x.1 + add) := by rw [es2, gJ_sJ, if_neg (by omega), sJ_at]
    have J33 : gJ s2 0 33 = x.2.1 + h.toInt64 := by rw [es2, sJ_at]
    have C2 : CM n lks t e s2 := by
      obtain ⟨c0, cl, ⟨c1, c2⟩, cf, cj, cr, cE, cEf⟩ := C1
      have R : ∀ i, gI s2 i = gI s i := fun i => funext (I2 i)
      exact ⟨c0, cl, ⟨by rw [I2]; exact c1, by rw [I2]; exact c2⟩, by rw [R]; exact cf, by rw [R]; exact cj, by rw [I2]; exact cr, by rw [R, R]; exact cE, cEf⟩
    have d52 : c_X9_goesAll_52 k21 (nI q) (nI w) h (gJ s 0 32) (lN add) s = if gI s2 0 34 = -1 then c_X9_goesAll_85 k21 (nI q) (nI w) h s2 else if gI s2 0 34 ≤ h then c_X9_goesAll_99 k21 (nI q) (nI w) s2 else c_X9_goesAll_85 k21 (nI q) (nI w) h s2 := by
      have g33' : gJ (sJ s 0 32 (lN (x.1 + add))) 0 33 = x.2.1 := by rw [gJ_sJ, if_neg (by omega)]; exact g33
      rw [c_X9_goesAll_52, g32, lN_add, lt_eqq, lt_eqq, g33', es2]
    have row2 : gI s2 4 = gI υ 4 := (funext fun k => I2 4 k).trans r1
    have d85 : c_X9_goesAll_85 k21 (nI q) (nI w) h s2 = c_X9_goesAll_99 k21 (nI q) (nI w) (sI (sI s2 0 34 h) 0 35 (dgt (gI υ 4) n)) := by
      have eD := m_digits (n := n) (σ := sI s2 0 34 h) (by rw [sI_k (by omega)]; exact C2.2.2.1.1) hC.1.2
      rw [show gI (sI s2 0 34 h) 4 = gI υ 4 by rw [← row2]; exact funext fun k => sI_i (by omega)] at eD
      rw [c_X9_goesAll_85, lt_eqq, eD, bi2_s, lt_eqq]
    have o3 : Off Zr s2 (sI (sI s2 0 34 h) 0 35 (dgt (gI υ 4) n)) := (Off.sI (q1 34 (by omega) (by omega))).tr (Off.sI (q1 35 (by omega) (by omega)))
    have row3 : gI (sI (sI s2 0 34 h) 0 35 (dgt (gI υ 4) n)) 4 = gI υ 4 := by rw [← row2]; exact funext fun k => by rw [sI_i (by omega), sI_i (by omega)]
    have C3 : CM n lks t e (sI (sI s2 0 34 h) 0 35 (dgt (gI υ 4) n)) := C2.off (S := fun i k => i = 0 ∧ (k = 34 ∨ k = 35)) ((Off.sI ⟨rfl, Or.inl rfl⟩).tr (Off.sI ⟨rfl, Or.inr rfl⟩)) (fun i k z => by omega)
    have T3 : TM (x.1 + add, x.2.1 + h.toInt64, h, dgt (gI υ 4) n) (sI (sI s2 0 34 h) 0 35 (dgt (gI υ 4) n)) := ⟨J32, J33, by rw [sI_k (by omega), sI_at], sI_at _ _ _ _⟩
    rw [d52, I2, g34, stp, ← hh, upT, ha]
    by_cases c : x.2.2.1 = -1
    · rw [if_pos c, if_pos c, if_pos c, d85]
      exact ⟨_, rfl, T3, oz.tr (o2.tr o3), row3, C3⟩
    · rw [if_neg c, if_neg c, if_neg c]
      by_cases c2 : x.2.2.1 ≤ h
      · rw [if_pos c2, if_pos c2, if_pos c2]
        exact ⟨s2, rfl, ⟨J32, J33, by rw [I2]; exact g34, by rw [I2]; exact g35⟩, oz.tr o2, row2, C2⟩
      · rw [if_neg c2, if_neg c2, if_neg c2, d85]
        exact ⟨_, rfl, T3, oz.tr (o2.tr o3), row3, C3⟩
  by_cases c : Hm e q w n lks (gI υ 4) = nI n
  · rw [if_pos c]
    exact key _ 1 rfl (if_pos c)
  · rw [if_neg c]
    exact key _ 0 rfl (if_neg c)
theorem M_goesL {n lks t q w : Nat} {e : Nat → Vf} (hw : w ≤ 11) : ∀ (k F : Nat) (x : T4) (υ : HS), k + 2 ≤ F → CM n lks t e υ → Chn n k (gI υ 4) → TM x υ → ∃ τ, c_X9_goesAll_21 F (nI q) (nI w) 1 υ = c_X9_goesAll_107 τ ∧ TM (all n (stp e q w n lks) k (gI υ 4) x) τ ∧ Off Zr υ τ := by
  intro k
  induction k with
  | zero =>
    intro F x υ hF hC hch hT
    obtain ⟨F, rfl⟩ : ∃ F', F = F' + 1 + 1 := ⟨F - 2, by omega⟩
    obtain ⟨s, h, e1, e2, e3, τ, e4, T4, o4, r4, C4⟩ := M_step (q := q) (k21 := fun z0 z1 z2 z3 => c_X9_goesAll_21 (F + 1) z0 z1 z2 z3) hC hw hT
    have adv := m_adv C4.2.2.1.1 hC.1.2 hC.1.1
    rw [r4, show nxf n (gI υ 4) = none from hch] at adv
    refine ⟨τ, ?_, T4, o4⟩
    rw [c_X9_goesAll_21, if_neg one_ne, e1, bi2_s, e2, e4, c_X9_goesAll_99, adv]
    rfl
  | succ k ih =>
    intro F x υ hF hC hch hT
    obtain ⟨F, rfl⟩ : ∃ F', F = F' + 1 := ⟨F - 1, by omega⟩
    obtain ⟨s, h, e1, e2, e3, s2, e4, T4, o4, r4, C4⟩ := M_step (q := q) (k21 := fun z0 z1 z2 z3 => c_X9_goesAll_21 F z0 z1 z2 z3) hC hw hT
    obtain ⟨g, hg, hch'⟩ := hch
    have adv := m_adv C4.2.2.1.1 hC.1.2 hC.1.1
    rw [r4, hg] at adv
    have kp := nxf_keep hC.1.1 hC.2.2.2.1 hC.2.2.2.2.1 hg
    have g6 : gI (sA s2 4 g) 4 = g := gI_row _ _ _
    have gne : ∀ i, i ≠ 4 → gI (sA s2 4 g) i = gI s2 i := fun i hi => gI_rowne hi
    have C5 : CM n lks t e (sA s2 4 g) := by
      obtain ⟨c0, cl, ⟨c1, c2⟩, cf, cj, cr, cE, cEf⟩ := C4
      exact ⟨c0, cl, ⟨by rw [gne 0 (by omega)]; exact c1, by rw [gne 0 (by omega)]; exact c2⟩, by rw [g6]; exact kp.1, by rw [g6]; exact kp.2, by rw [gne 0 (by omega)]; exact cr, by rw [gne 1 (by omega), gne 2 (by omega)]; exact cE, cEf⟩
    obtain ⟨τ, e5, T5, o5⟩ := ih F (stp e q w n lks (gI υ 4) x) (sA s2 4 g) (by omega) C5 (by rw [g6]; exact hch') ⟨T4.1, T4.2.1, by rw [gne 0 (by omega)]; exact T4.2.2.1, by rw [gne 0 (by omega)]; exact T4.2.2.2⟩
    refine ⟨τ, ?_, ?_, o4.tr (Off.tr (Off.sA fun k => Or.inr rfl) o5)⟩
    · rw [c_X9_goesAll_21, if_neg one_ne, e1, bi2_s, e2, e4, c_X9_goesAll_99, adv]
      exact e5
    · rw [all, hg]
      dsimp only
      rw [g6] at T5
      exact T5
