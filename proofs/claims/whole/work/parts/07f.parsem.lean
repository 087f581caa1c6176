/-! PARSING by the reference -/
def fM (τ : HS) : Nat → Int32 := fct τ (gI τ 0 22) (gI τ 0 23)
def SM (i k : Nat) : Prop := i = 0 ∧ 15 ≤ k ∧ k ≤ 21
theorem fM_off {τ υ : HS} (h : Off SM τ υ) : fM υ = fM τ := by
  have e : ∀ k, (k < 15 ∨ 21 < k) → gI υ 0 k = gI τ 0 k := fun k hk => h.1 0 k (by unfold SM; omega)
  funext k
  rw [fM, fM, fct, fct, e 22 (by omega), e 23 (by omega), e 8 (by omega), e 12 (by omega), e 10 (by omega), e 11 (by omega)]
def AtM (b : Nat → Nat) (sz t p o : Nat) (τ : HS) : Prop := TpM b sz t τ ∧ PM (gB b sz) p τ ∧ gI τ 0 19 = nI o ∧ gI τ 0 20 = 0
def BdM (s : Int32) (τ : HS) : Prop := gI τ 0 20 = 1 ∧ gI τ 0 21 = s
theorem TpM.off {b : Nat → Nat} {sz t : Nat} {τ υ : HS} (h : TpM b sz t τ) (o : Off SM τ υ) : TpM b sz t υ := by
  have n1 : ∀ k, k < 15 → ¬ SM 0 k := fun k hk z => by unfold SM at z; omega
  have n2 : ∀ k, ¬ SM 1 k := fun k z => by unfold SM at z; omega
  exact ⟨h.1, h.2.1, by rw [o.1 0 13 (n1 _ (by omega))]; exact h.2.2.1, by rw [o.1 0 14 (n1 _ (by omega))]; exact h.2.2.2.1, fun k hk => by rw [o.1 1 _ (n2 _)]; exact h.2.2.2.2 k hk⟩
theorem KW.same {c : Nat} {τ υ : HS} (h : KW c τ) (h1 : gI υ 0 15 = gI τ 0 15) (h2 : gJ υ 0 17 = gJ τ 0 17) : KW c υ := by
  unfold KW at h ⊢
  rw [h1, h2]
  exact h
theorem SN_SM {τ υ : HS} (o : Off SN τ υ) : Off SM τ υ := o.mono fun i k z => by unfold SN at z; unfold SM; omega
theorem n_next {b : Nat → Nat} {sz t p o : Nat} {τ : HS} (h : TpM b sz t τ) (hp : gI τ 0 18 = nI p) (h9 : gI τ 0 19 = nI o) (h0 : gI τ 0 20 = 0) (hsz : p ≤ sz) : ∃ τ', c_X9_next1 τ = some τ' ∧ AtM b sz t p o τ' ∧ Off SM τ τ' := by
  obtain ⟨τ', e, h1, o1⟩ := m_next1 h hp hsz
  refine ⟨τ', e, ⟨h.off (SN_SM o1), h1, ?_, ?_⟩, SN_SM o1⟩
  · rw [o1.1 0 19 (by unfold SN; omega)]; exact h9
  · rw [o1.1 0 20 (by unfold SN; omega)]; exact h0
theorem a_next {b : Nat → Nat} {sz t p o : Nat} {τ : HS} (h : AtM b sz t p o τ) (hp : p ≤ sz) (hc : cd (gB b sz) p ≠ 10022) : ∃ τ', c_X9_next1 τ = some τ' ∧ AtM b sz t (en (gB b sz) p) o τ' ∧ Off SM τ τ' := n_next h.1 (h.2.1.2.2 hc) h.2.2.1 h.2.2.2 (en_le hp)
theorem a_fail {b : Nat → Nat} {sz t p o : Nat} {τ : HS} (h : AtM b sz t p o τ) : ∃ τ', c_X9_fail τ = some τ' ∧ BdM (nI (st (gB b sz) p)) τ' ∧ Off SM τ τ' := by
  refine ⟨sI (sI τ 0 20 1) 0 21 (gI (sI τ 0 20 1) 0 16), by rw [c_X9_fail, if_pos h.2.2.2]; rfl, ⟨?_, ?_⟩, (Off.sI ⟨rfl, by omega, by omega⟩).tr (Off.sI ⟨rfl, by omega, by omega⟩)⟩
  · rw [sI_k (by omega), sI_at]
  · rw [sI_at, sI_k (by omega)]; exact h.2.1.1
theorem b_fail {s : Int32} {τ : HS} (h : BdM s τ) : c_X9_fail τ = some τ := by rw [c_X9_fail, if_neg (by rw [h.1]; exact one_ne)]
theorem BdM.n0 {s : Int32} {τ : HS} (h : BdM s τ) : ¬ gI τ 0 20 = 0 := by rw [h.1]; exact one_ne
theorem BdM.s19 {s v : Int32} {τ : HS} (h : BdM s τ) : BdM s (sI τ 0 19 v) := ⟨by rw [sI_k (by omega)]; exact h.1, by rw [sI_k (by omega)]; exact h.2⟩
theorem AtM.s19 {b : Nat → Nat} {sz t p o o' : Nat} {τ : HS} (h : AtM b sz t p o τ) : AtM b sz t p o' (sI τ 0 19 (nI o')) := by
  refine ⟨h.1.sI (by omega), ⟨by rw [sI_k (by omega)]; exact h.2.1.1, h.2.1.2.1.same (sI_k (by omega)) rfl, fun c => by rw [sI_k (by omega)]; exact h.2.1.2.2 c⟩, sI_at _ _ _ _, by rw [sI_k (by omega)]; exact h.2.2.2⟩
theorem o19 {τ : HS} {v : Int32} : Off SM τ (sI τ 0 19 v) := Off.sI ⟨rfl, by omega, by omega⟩
theorem a_opens {b : Nat → Nat} {sz t p o : Nat} {τ : HS} (ho : o < 5) (h : AtM b sz t p o τ) (hp : p ≤ sz) (hc : cd (gB b sz) p ≠ 10022) : ∃ τ', c_X9_opens τ = some (1, τ') ∧ AtM b sz t (en (gB b sz) p) (o + 1) τ' ∧ Off SM τ τ' := by
  obtain ⟨τ', e, h1, o1⟩ := a_next (h.s19 (o' := o + 1)) hp hc
  refine ⟨τ', ?_, h1, o19.tr o1⟩
  rw [c_X9_opens, h.2.2.1, if_neg (by rw [show (5 : Int32) = nI 5 from rfl, nI_eq (by omega) (by omega)]; omega), lt_eqq, nI_1, e, bi1_s]
theorem a_opensF {b : Nat → Nat} {sz t p : Nat} {τ : HS} (h : AtM b sz t p 5 τ) : ∃ τ', c_X9_opens τ = some (0, τ') ∧ BdM (nI (st (gB b sz) p)) τ' ∧ Off SM τ τ' := by
  obtain ⟨τ', e, h1, o1⟩ := a_fail h
  exact ⟨τ', by rw [c_X9_opens, h.2.2.1, if_pos (show nI 5 = 5 from rfl), e, bi1_s], h1, o1⟩
def OutM (b : Nat → Nat) (sz t o : Nat) (r : Rs) (x : Int32) (τ τ' : HS) : Prop := (r.1 = true ∧ x = r.2.2.2 (fM τ) ∧ AtM b sz t r.2.1 o τ') ∨ (r.1 = false ∧ BdM (nI (st (gB b sz) r.2.1)) τ')
def SimM (b : Nat → Nat) (sz t o : Nat) (f : HS → Option (Int32 × HS)) (sub : Nat → Rs) : Prop := ∀ p τ, p ≤ sz → AtM b sz t p o τ → ∃ x τ', f τ = some (x, τ') ∧ OutM b sz t o (sub p) x τ τ' ∧ Off SM τ τ'
theorem W_0 : (3499582 : Int64) = Ww 0 := by decide +kernel
theorem W_1 : (9626 : Int64) = Ww 1 := by decide +kernel
theorem W_2 : (6683788 : Int64) = Ww 2 := by decide +kernel
theorem W_3 : (5176084822 : Int64) = Ww 3 := by decide +kernel
theorem W_4 : (9753499 : Int64) = Ww 4 := by decide +kernel
theorem W_5 : (4871861606 : Int64) = Ww 5 := by decide +kernel
theorem W_6 : (168755 : Int64) = Ww 6 := by decide +kernel
theorem W_7 : (385268 : Int64) = Ww 7 := by decide +kernel
theorem W_8 : (1613 : Int64) = Ww 8 := by decide +kernel
theorem W_9 : (423 : Int64) = Ww 9 := by decide +kernel
theorem W_10 : (1111 : Int64) = Ww 10 := by decide +kernel
theorem W_11 : (10631 : Int64) = Ww 11 := by decide +kernel
theorem a_word {b : Nat → Nat} {sz t p o w : Nat} {v : Int64} {τ : HS} (h : AtM b sz t p o τ) (hw : w < 12) (hv : v = Ww w) : c_X9_isWord v τ = some (tf (decide (cd (gB b sz) p = 10000 + w)), τ) := by
  rw [hv]
  exact m_isWord h.2.1.2.1 h.2.2.2 hw
theorem a_sign {b : Nat → Nat} {sz t p o w : Nat} {v : Int32} {τ : HS} (h : AtM b sz t p o τ) (hw : w < 8) (hv : v = sgB w) : c_X9_isSign v τ = some (tf (decide (cd (gB b sz) p = 10012 + w)), τ) := by
  rw [hv]
  exact m_isSign h.2.1.2.1 h.2.2.2 hw
theorem dec_t {P : Prop} [d : Decidable P] (h : P) : decide P = true := decide_eq_true h
theorem dec_f {P : Prop} [d : Decidable P] (h : ¬ P) : ¬ decide P = true := fun z => h (of_decide_eq_true z)
theorem a_name {b : Nat → Nat} {sz t p o : Nat} {τ : HS} (h : AtM b sz t p o τ) : (∃ w, w < 6 ∧ cd (gB b sz) p = 10000 + w ∧ c_X9_name τ = some (fM τ w, τ)) ∨ ((∀ w, w < 6 → cd (gB b sz) p ≠ 10000 + w) ∧ ∃ τ', c_X9_name τ = some (0, τ') ∧ BdM (nI (st (gB b sz) p)) τ' ∧ Off SM τ τ') := by
  rw [c_X9_name]
  rw [a_word h (w := 0) (by omega) W_0, bi2_s, if10]
  by_cases c0 : cd (gB b sz) p = 10000 + 0
  · rw [if_pos (dec_t c0)]
    exact Or.inl ⟨0, by omega, c0, rfl⟩
  rw [if_neg (dec_f c0)]
  rw [a_word h (w := 1) (by omega) W_1, bi2_s, if10]
  by_cases c1 : cd (gB b sz) p = 10000 + 1
  · rw [if_pos (dec_t c1)]
    exact Or.inl ⟨1, by omega, c1, rfl⟩
  rw [if_neg (dec_f c1)]
  rw [a_word h (w := 2) (by omega) W_2, bi2_s, if10]
  by_cases c2 : cd (gB b sz) p = 10000 + 2
  · rw [if_pos (dec_t c2)]
    exact Or.inl ⟨2, by omega, c2, rfl⟩
  rw [if_neg (dec_f c2)]
  rw [a_word h (w := 3) (by omega) W_3, bi2_s, if10]
  by_cases c3 : cd (gB b sz) p = 10000 + 3
  · rw [if_pos (dec_t c3)]
    exact Or.inl ⟨3, by omega, c3, rfl⟩
  rw [if_neg (dec_f c3)]
  rw [a_word h (w := 4) (by omega) W_4, bi2_s, if10]
  by_cases c4 : cd (gB b sz) p = 10000 + 4
  · rw [if_pos (dec_t c4)]
    exact Or.inl ⟨4, by omega, c4, rfl⟩
  rw [if_neg (dec_f c4)]
  rw [a_word h (w := 5) (by omega) W_5, bi2_s, if10]
  by_cases c5 : cd (gB b sz) p = 10000 + 5
  · rw [if_pos (dec_t c5)]
    exact Or.inl ⟨5, by omega, c5, rfl⟩
  rw [if_neg (dec_f c5)]
  obtain ⟨τ', e, h1, o1⟩ := a_fail h
  rw [e, bi1_s]
  refine Or.inr ⟨fun w hw => ?_, τ', rfl, h1, o1⟩
  have : w = 0 ∨ w = 1 ∨ w = 2 ∨ w = 3 ∨ w = 4 ∨ w = 5 := by omega
  rcases this with rfl | rfl | rfl | rfl | rfl | rfl
  · exact c0
  · exact c1
  · exact c2
  · exact c3
  · exact c4
  · exact c5
theorem kd15 {c : Nat} {τ : HS} (h : KW c τ) : (gI τ 0 15 = 2 → c < 10000 ∧ (gJ τ 0 17).toInt32 = nI c) ∧ (c < 10000 → gI τ 0 15 = 2) ∧ (∀ w, w < 12 → c = 10000 + w → gI τ 0 15 = 1) := by
  have k : ¬ (0 : Int32) = 2 ∧ ¬ (1 : Int32) = 2 ∧ ¬ (3 : Int32) = 2 ∧ ¬ (4 : Int32) = 2 := by decide
  rcases h with ⟨hc, h⟩ | ⟨v, hv, hc, h, hJ⟩ | ⟨hc, h, hJ⟩ | ⟨v, hv, hc, h, hJ⟩ | ⟨hc, h⟩
  · rw [h]; exact ⟨fun z => absurd z k.1, fun z => by omega, fun w hw z => by omega⟩
  · rw [h]; exact ⟨fun z => absurd z k.2.1, fun z => by omega, fun w hw z => rfl⟩
  · rw [h, hJ]; exact ⟨fun _ => ⟨hc, lN_i c⟩, fun _ => rfl, fun w hw z => by omega⟩
  · rw [sgC] at hc
    rw [h]; exact ⟨fun z => absurd z k.2.2.1, fun z => by omega, fun w hw z => by omega⟩
  · refine ⟨fun z => ?_, fun z => by omega, fun w hw z => by omega⟩
    rcases h with h | ⟨h, _⟩
    · rw [h] at z; exact absurd z k.2.2.2
    · rw [h] at z; exact absurd z k.2.1
theorem sim_oneM {b : Nat → Nat} {sz t o : Nat} {kE kN kO : HS → Option (Int32 × HS)} {sF sO : Nat → Rs} {dp : Bool} (ho : o ≤ 5) (hd : dp = true ↔ o = 5) (wF : Wf sz sF) (hF : o < 5 → SimM b sz t (o + 1) kE sF) (hO : o < 5 → SimM b sz t (o + 1) kO sO) : SimM b sz t o (c_X9_one kE kN kO) (P1 (gB b sz) sF sO dp) := by
  intro p τ hp h
  have hz := h.1.1.1
  have hcd := cd_lt h.1.1.2 p
  rw [c_X9_one, P1, a_sign h (w := 4) (v := 45) (by omega) rfl, bi2_s, if10]
  by_cases c3 : cd (gB b sz) p = 10012 + 4
  · rw [if_pos (dec_t c3), if_neg (by omega)]
    by_cases c2 : o = 5
    · obtain ⟨s1, e1, h1, o1⟩ := a_opensF (c2 ▸ h)
      rw [e1, bi2_s, if_pos rfl, if_pos (hd.mpr c2)]
      exact ⟨0, s1, rfl, Or.inr ⟨rfl, h1⟩, o1⟩
    rw [if_neg (fun z => c2 (hd.mp z)), if_pos c3]
    obtain ⟨s1, e1, h1, o1⟩ := a_opens (by omega) h hp (by omega)
    obtain ⟨x, s2, e2, h2, o2⟩ := hO (by omega) (en (gB b sz) p) s1 (en_le hp) h1
    rw [e1, bi2_s, if_neg one_ne, e2, bi2_s, lt_eqq]
    rcases h2 with ⟨hr, hx, h2⟩ | ⟨hr, h2⟩
    · rw [rb_t hr, h2.2.2.1, nI_pred]
      refine ⟨-x, _, rfl, Or.inl ⟨rfl, ?_, h2.s19⟩, o1.tr (o2.tr o19)⟩
      rw [hx, fM_off o1]
    · rw [rb_f hr]
      exact ⟨-x, _, rfl, Or.inr ⟨rfl, h2.s19⟩, o1.tr (o2.tr o19)⟩
  rw [if_neg (dec_f c3), a_sign h (w := 0) (v := 40) (by omega) rfl, bi2_s, if10]
  by_cases c4 : cd (gB b sz) p = 10012 + 0
  · rw [if_pos (dec_t c4), if_neg (by omega)]
    by_cases c2 : o = 5
    · obtain ⟨s1, e1, h1, o1⟩ := a_opensF (c2 ▸ h)
      rw [e1, bi2_s, if_pos rfl, if_pos (hd.mpr c2)]
      exact ⟨0, s1, rfl, Or.inr ⟨rfl, h1⟩, o1⟩
    rw [if_neg (fun z => c2 (hd.mp z)), if_neg c3, if_pos c4]
    obtain ⟨s1, e1, h1, o1⟩ := a_opens (by omega) h hp (by omega)
    obtain ⟨x, s2, e2, h2, o2⟩ := hF (by omega) (en (gB b sz) p) s1 (en_le hp) h1
    have hw := wF (en (gB b sz) p) (en_le hp)
    rw [e1, bi2_s, if_neg one_ne, e2, bi2_s]
    rcases h2 with ⟨hr, hx, h2⟩ | ⟨hr, h2⟩
    · rw [rb_t hr, a_sign h2 (w := 1) (v := 41) (by omega) rfl, bi2_s, if10]
      by_cases c5 : cd (gB b sz) (sF (en (gB b sz) p)).2.1 = 10012 + 1
      · have h3 := h2.s19 (o' := o)
        obtain ⟨s4, e4, h4, o4⟩ := a_next h3 hw.1 (by omega)
        rw [if_pos (dec_t c5), if_pos c5, c_X9_one_71, h2.2.2.1, nI_pred, lt_eqq, if_pos h3.2.2.2, e4, bi1_s]
        refine ⟨x, s4, rfl, Or.inl ⟨rfl, ?_, h4⟩, o1.tr (o2.tr (o19.tr o4))⟩
        rw [hx, fM_off o1]
      · obtain ⟨s3, e3, h3, o3⟩ := a_fail h2
        rw [if_neg (dec_f c5), if_neg c5, e3, bi1_s, c_X9_one_71, lt_eqq, if_neg h3.s19.n0]
        exact ⟨x, _, rfl, Or.inr ⟨rfl, h3.s19⟩, o1.tr (o2.tr (o3.tr o19))⟩
    · rw [rb_f hr, bad_isSign h2.1, bi2_s, if_pos rfl, b_fail h2, bi1_s, c_X9_one_71, lt_eqq, if_neg h2.s19.n0]
      exact ⟨x, _, rfl, Or.inr ⟨rfl, h2.s19⟩, o1.tr (o2.tr o19)⟩
  rw [if_neg (dec_f c4), if_pos h.2.2.2]
  obtain ⟨k1, k2, k3⟩ := kd15 h.2.1.2.1
  by_cases c1 : gI τ 0 15 = 2
  · obtain ⟨s1, e1, h1, o1⟩ := a_next h hp (by have := k1 c1; omega)
    rw [if_pos c1, e1, bi1_s, if_pos (by have := k1 c1; omega), (k1 c1).2]
    refine ⟨_, s1, rfl, Or.inl ⟨rfl, ?_, h1⟩, o1⟩
    show nI (cd (gB b sz) p) = (if cd (gB b sz) p < 10000 then nI (cd (gB b sz) p) else fM τ (cd (gB b sz) p - 10000))
    rw [if_pos (k1 c1).1]
  rw [if_neg c1, c_X9_one_123, if_pos h.2.2.2]
  have nf : ∀ r, r = nok p → ∃ x τ', c_X9_one_157 kE kN kO 0 τ = some (x, τ') ∧ OutM b sz t o r x τ τ' ∧ Off SM τ τ' := by
    intro r hr
    obtain ⟨s1, e1, h1, o1⟩ := a_fail h
    rw [c_X9_one_157, e1, bi1_s, hr]
    exact ⟨0, s1, rfl, Or.inr ⟨rfl, h1⟩, o1⟩
  have notn : ¬ cd (gB b sz) p < 10000 := fun z => c1 (k2 z)
  by_cases c6 : gI τ 0 15 = 1
  · rw [if_pos c6]
    rcases a_name h with ⟨w, hw, hc, e1⟩ | ⟨hc, s1, e1, h1, o1⟩
    · obtain ⟨s2, e2, h2, o2⟩ := a_next h hp (by omega)
      rw [e1, bi2_s, if_pos h.2.2.2, e2, bi1_s, if_pos (by omega)]
      refine ⟨_, s2, rfl, Or.inl ⟨rfl, ?_, h2⟩, o2⟩
      show fM τ w = (if cd (gB b sz) p < 10000 then nI (cd (gB b sz) p) else fM τ (cd (gB b sz) p - 10000))
      rw [if_neg notn, hc, show 10000 + w - 10000 = w by omega]
    · rw [e1, bi2_s, if_neg h1.n0, if_neg (fun z => hc (cd (gB b sz) p - 10000) (by omega) (by omega))]
      refine ⟨0, s1, rfl, Or.inr ?_, o1⟩
      by_cases c2 : dp = true
      · rw [if_pos c2]; exact ⟨rfl, h1⟩
      · rw [if_neg c2, if_neg c3, if_neg c4]; exact ⟨rfl, h1⟩
  · rw [if_neg c6, if_neg (fun z => c6 (k3 (cd (gB b sz) p - 10000) (by omega) (by omega)))]
    by_cases c2 : dp = true
    · rw [if_pos c2]; exact nf _ rfl
    · rw [if_neg c2, if_neg c3, if_neg c4]; exact nf _ rfl
theorem sim_loopM {b : Nat → Nat} {sz t o : Nat} {L : Nat → Int32 → HS → Option (Int32 × HS)} {S : HS → Option (Int32 × HS)} {sub : Nat → Rs} {op : Nat → Bool} (hop : op 10021 = false) (hop2 : op 10022 = false) (hw : Wf sz sub) (hS : SimM b sz t o S sub)
    (hL1 : ∀ n x c σ, KW c σ → gI σ 0 20 = 0 → L (n + 1) x σ = if op c = true then bi1 (c_X9_next1 σ) (fun s9 => bi2 (S s9) (fun r12 s11 => L n (jn c x r12) s11)) else some (x, σ))
    (hLb : ∀ n x σ, gI σ 0 20 = 1 → L (n + 1) x σ = some (x, σ)) : ∀ (F m p : Nat) (c : List Nat) (v : Vf) (τ : HS), m < F → sz ≤ p + m → p ≤ sz → AtM b sz t p o τ → ∃ x τ', L F (v (fM τ)) τ = some (x, τ') ∧ OutM b sz t o (PLp (gB b sz) sub op m p c v) x τ τ' ∧ Off SM τ τ' := by
  intro F
  induction F with
  | zero => intro m p c v τ h1; omega
  | succ F ih =>
    intro m p c v τ hF hm hp h
    rw [hL1 F _ (cd (gB b sz) p) τ h.2.1.2.1 h.2.2.2]
    cases m with
    | zero => rw [cd_end (by omega), if_neg (by rw [hop]; decide), PLp]; exact ⟨_, τ, rfl, Or.inl ⟨rfl, rfl, h⟩, Off.rf⟩
    | succ m =>
      rw [PLp]
      by_cases c1 : op (cd (gB b sz) p) = true
      · have hn : cd (gB b sz) p ≠ 10021 := fun z => by rw [z, hop] at c1; cases c1
        have hn2 : cd (gB b sz) p ≠ 10022 := fun z => by rw [z, hop2] at c1; cases c1
        have hg := en_gt hn
        have hl := en_le (b := b) hp
        rw [if_pos c1, if_pos c1]
        obtain ⟨s1, e1, h1, o1⟩ := a_next h hp hn2
        obtain ⟨x, s2, e2, h2, o2⟩ := hS (en (gB b sz) p) s1 hl h1
        have hw2 := hw (en (gB b sz) p) hl
        rw [e1, bi1_s, e2, bi2_s]
        rcases h2 with ⟨hr, hx, h2⟩ | ⟨hr, h2⟩
        · have := hw2.2 hr
          rw [rb_t hr]
          obtain ⟨y, s4, e4, h4, o4⟩ := ih m (sub (en (gB b sz) p)).2.1 (c ++ (sub (en (gB b sz) p)).2.2.1 ++ [cd (gB b sz) p]) (fun f => jn (cd (gB b sz) p) (v f) ((sub (en (gB b sz) p)).2.2.2 f)) s2 (by omega) (by omega) hw2.1 h2
          have ef : fM s2 = fM τ := fM_off (o1.tr o2)
          rw [ef] at e4
          rw [hx, fM_off o1]
          refine ⟨y, s4, e4, ?_, o1.tr (o2.tr o4)⟩
          rcases h4 with ⟨q1, q2, q3⟩ | q
          · exact Or.inl ⟨q1, by rw [q2, ef], q3⟩
          · exact Or.inr q
        · obtain ⟨F', rfl⟩ : ∃ F', F = F' + 1 := ⟨F - 1, by omega⟩
          rw [hLb _ _ _ h2.1, rb_f hr]
          exact ⟨_, s2, rfl, Or.inr ⟨rfl, h2⟩, o1.tr o2⟩
      · rw [if_neg c1, if_neg c1]; exact ⟨_, τ, rfl, Or.inl ⟨rfl, rfl, h⟩, Off.rf⟩
theorem sim_bnM {b : Nat → Nat} {sz t o : Nat} {L : Nat → Int32 → HS → Option (Int32 × HS)} {S : HS → Option (Int32 × HS)} {sub : Nat → Rs} {op : Nat → Bool} (hop : op 10021 = false) (hop2 : op 10022 = false) (hw : Wf sz sub) (hS : SimM b sz t o S sub)
    (hL1 : ∀ n x c σ, KW c σ → gI σ 0 20 = 0 → L (n + 1) x σ = if op c = true then bi1 (c_X9_next1 σ) (fun s9 => bi2 (S s9) (fun r12 s11 => L n (jn c x r12) s11)) else some (x, σ))
    (hLb : ∀ n x σ, gI σ 0 20 = 1 → L (n + 1) x σ = some (x, σ)) : SimM b sz t o (fun σ => bi2 (S σ) (fun r3 s2 => L FU r3 s2)) (PBn (gB b sz) sub op) := by
  intro p τ hp h
  obtain ⟨x, s1, e1, h1, o1⟩ := hS p τ hp h
  have hz := h.1.1.1
  have hw2 := hw p hp
  show ∃ x τ', bi2 (S τ) (fun r3 s2 => L FU r3 s2) = some (x, τ') ∧ _
  rw [e1, bi2_s, PBn]
  rcases h1 with ⟨hr, hx, h1⟩ | ⟨hr, h1⟩
  · rw [rb_t hr]
    obtain ⟨y, s4, e4, h4, o4⟩ := sim_loopM hop hop2 hw hS hL1 hLb FU 160 (sub p).2.1 (sub p).2.2.1 (sub p).2.2.2 s1 (by rw [FU]; omega) (by omega) hw2.1 h1
    have ef : fM s1 = fM τ := fM_off o1
    rw [ef] at e4
    rw [hx]
    refine ⟨y, s4, e4, ?_, o1.tr o4⟩
    rcases h4 with ⟨q1, q2, q3⟩ | q
    · exact Or.inl ⟨q1, by rw [q2, ef], q3⟩
    · exact Or.inr q
  · rw [rb_f hr]
    have e0 : L FU x s1 = some (x, s1) := hLb 5999 x s1 h1.1
    exact ⟨x, s1, e0, Or.inr ⟨rfl, h1⟩, o1⟩
theorem KW.sg {c : Nat} {τ : HS} (h : KW c τ) {s : Nat} (hs : s < 8) (hc : c = 10012 + s) : gJ τ 0 17 = (sgB s).toInt64 := by
  rcases h with ⟨hc2, h⟩ | ⟨v, hv, hc2, h, hJ⟩ | ⟨hc2, h, hJ⟩ | ⟨v, hv, hc2, h, hJ⟩ | ⟨hc2, h⟩
  · omega
  · omega
  · omega
  · rw [sgC] at hc2
    rw [hJ, show v = s by omega]
  · omega
theorem jn9 (x y : Int32) : jn 10009 x y = if x = 0 then (if y = 0 then 0 else 1) else 1 := rfl
theorem jn10 (x y : Int32) : jn 10010 x y = if x = 0 then 0 else if y = 0 then 0 else 1 := rfl
theorem jn15 (x y : Int32) : jn 10015 x y = x + y := rfl
theorem jn16 (x y : Int32) : jn 10016 x y = x - y := rfl
theorem jn17 (x y : Int32) : jn 10017 x y = x * y := rfl
theorem jn18 (x y : Int32) : jn 10018 x y = if y ≤ x then 0 else 1 := rfl
theorem jn19 (x y : Int32) : jn 10019 x y = if x = y then 1 else 0 := rfl
theorem l1M_T {kE kN kO : HS → Option (Int32 × HS)} (n : Nat) (x : Int32) (c : Nat) (σ : HS) (h : KW c σ) (hb : gI σ 0 20 = 0) : c_X9_term_5 kE kN kO (n + 1) x σ = if oT c = true then bi1 (c_X9_next1 σ) (fun s9 => bi2 (c_X9_one kE kN kO s9) (fun r12 s11 => c_X9_term_5 kE kN kO n (jn c x r12) s11)) else some (x, σ) := by
  rw [c_X9_term_5, show (42 : Int32) = sgB 5 from rfl, m_isSign h hb (w := 5) (by omega), bi2_s, if10, oT]
  by_cases c1 : c = 10017
  · rw [if_pos (dec_t (show c = 10012 + 5 from c1)), if_pos (dec_t c1), c1]; rfl
  · rw [if_neg (dec_f (show ¬ c = 10012 + 5 from c1)), if_neg (dec_f c1)]
theorem l0M_T {kE kN kO : HS → Option (Int32 × HS)} (n : Nat) (x : Int32) (σ : HS) (hb : gI σ 0 20 = 1) : c_X9_term_5 kE kN kO (n + 1) x σ = some (x, σ) := by
  rw [c_X9_term_5, bad_isSign hb, bi2_s, if_pos rfl]
theorem l1M_S {kE kN kO : HS → Option (Int32 × HS)} (n : Nat) (x : Int32) (c : Nat) (σ : HS) (h : KW c σ) (hb : gI σ 0 20 = 0) : c_X9_added_5 kE kN kO (n + 1) x σ = if oS c = true then bi1 (c_X9_next1 σ) (fun s9 => bi2 (c_X9_term kE kN kO s9) (fun r12 s11 => c_X9_added_5 kE kN kO n (jn c x r12) s11)) else some (x, σ) := by
  rw [c_X9_added_5, show (43 : Int32) = sgB 3 from rfl, m_isSign h hb (w := 3) (by omega), bi2_s, if10, oS]
  by_cases c1 : c = 10015
  · rw [if_pos (dec_t (show c = 10012 + 3 from c1)), if_pos (by rw [dec_t c1]; rfl), c_X9_added_23, h.sg (s := 3) (by omega) c1, if_pos ((lg_cmp_eq _ _).mpr (show (sgB 3).toInt64 = 43 by decide)), c_X9_added_39, c1]; rfl
  rw [if_neg (dec_f (show ¬ c = 10012 + 3 from c1)), show (45 : Int32) = sgB 4 from rfl, m_isSign h hb (w := 4) (by omega), bi2_s, if10]
  by_cases c2 : c = 10016
  · rw [if_pos (dec_t (show c = 10012 + 4 from c2)), if_pos (by rw [dec_t c2, Bool.or_true]), c_X9_added_23, h.sg (s := 4) (by omega) c2, if_neg (fun z => absurd ((lg_cmp_eq _ _).mp z) (by decide)), c_X9_added_39, c2]; rfl
  · rw [if_neg (dec_f (show ¬ c = 10012 + 4 from c2)), if_neg (by rw [decide_eq_false c1, decide_eq_false c2]; decide)]
theorem l0M_S {kE kN kO : HS → Option (Int32 × HS)} (n : Nat) (x : Int32) (σ : HS) (hb : gI σ 0 20 = 1) : c_X9_added_5 kE kN kO (n + 1) x σ = some (x, σ) := by
  rw [c_X9_added_5, bad_isSign hb, bi2_s, if_pos rfl, bad_isSign hb, bi2_s, if_pos rfl]
theorem l1M_A {kE kN kO : HS → Option (Int32 × HS)} (n : Nat) (x : Int32) (c : Nat) (σ : HS) (h : KW c σ) (hb : gI σ 0 20 = 0) : c_X9_both_5 kE kN kO (n + 1) x σ = if oA c = true then bi1 (c_X9_next1 σ) (fun s9 => bi2 (c_X9_not kE kN kO s9) (fun r12 s11 => c_X9_both_5 kE kN kO n (jn c x r12) s11)) else some (x, σ) := by
  rw [c_X9_both_5, W_10, m_isWord h hb (w := 10) (by omega), bi2_s, if10, oA]
  by_cases c1 : c = 10010
  · rw [if_pos (dec_t (show c = 10000 + 10 from c1)), if_pos (dec_t c1), c1]
    refine congrArg (bi1 (c_X9_next1 σ)) (funext fun s9 => congrArg (bi2 (c_X9_not kE kN kO s9)) (funext fun r => funext fun s => ?_))
    rw [jn10, c_X9_both_36, c_X9_both_37, c_X9_both_37]
    by_cases q1 : x = 0
    · rw [if_pos q1, if_pos q1]
    · rw [if_neg q1, if_neg q1]
      by_cases q2 : r = 0
      · rw [if_pos q2, if_pos q2]
      · rw [if_neg q2, if_neg q2]
  · rw [if_neg (dec_f (show ¬ c = 10000 + 10 from c1)), if_neg (dec_f c1)]
theorem l0M_A {kE kN kO : HS → Option (Int32 × HS)} (n : Nat) (x : Int32) (σ : HS) (hb : gI σ 0 20 = 1) : c_X9_both_5 kE kN kO (n + 1) x σ = some (x, σ) := by
  rw [c_X9_both_5, bad_isWord hb, bi2_s, if_pos rfl]
theorem l1M_O {kE kN kO : HS → Option (Int32 × HS)} (n : Nat) (x : Int32) (c : Nat) (σ : HS) (h : KW c σ) (hb : gI σ 0 20 = 0) : c_X9_either_5 kE kN kO (n + 1) x σ = if oO c = true then bi1 (c_X9_next1 σ) (fun s9 => bi2 (c_X9_both kE kN kO s9) (fun r12 s11 => c_X9_either_5 kE kN kO n (jn c x r12) s11)) else some (x, σ) := by
  rw [c_X9_either_5, W_9, m_isWord h hb (w := 9) (by omega), bi2_s, if10, oO]
  by_cases c1 : c = 10009
  · rw [if_pos (dec_t (show c = 10000 + 9 from c1)), if_pos (dec_t c1), c1]
    refine congrArg (bi1 (c_X9_next1 σ)) (funext fun s9 => congrArg (bi2 (c_X9_both kE kN kO s9)) (funext fun r => funext fun s => ?_))
    rw [jn9, c_X9_either_32, c_X9_either_37, c_X9_either_37]
    by_cases q1 : x = 0
    · rw [if_pos q1, if_pos q1]
      by_cases q2 : r = 0
      · rw [if_pos q2, if_pos q2]
      · rw [if_neg q2, if_neg q2]
    · rw [if_neg q1, if_neg q1]
  · rw [if_neg (dec_f (show ¬ c = 10000 + 9 from c1)), if_neg (dec_f c1)]
theorem l0M_O {kE kN kO : HS → Option (Int32 × HS)} (n : Nat) (x : Int32) (σ : HS) (hb : gI σ 0 20 = 1) : c_X9_either_5 kE kN kO (n + 1) x σ = some (x, σ) := by
  rw [c_X9_either_5, bad_isWord hb, bi2_s, if_pos rfl]
theorem sim_notM {b : Nat → Nat} {sz t o : Nat} {kE kN kO : HS → Option (Int32 × HS)} {sN sub : Nat → Rs} {dp : Bool} (ho : o ≤ 5) (hd : dp = true ↔ o = 5) (hw : Wf sz sub) (hN : o < 5 → SimM b sz t (o + 1) kN sN) (hS : SimM b sz t o (c_X9_added kE kN kO) sub) : SimM b sz t o (c_X9_not kE kN kO) (PN (gB b sz) sN sub dp) := by
  intro p τ hp h
  rw [c_X9_not, PN, a_word h (w := 11) (by omega) W_11, bi2_s, if10]
  by_cases c1 : cd (gB b sz) p = 10011
  · rw [if_pos (dec_t (show _ = 10000 + 11 from c1)), if_pos c1]
    by_cases c2 : o = 5
    · obtain ⟨s1, e1, h1, o1⟩ := a_opensF (c2 ▸ h)
      rw [e1, bi2_s, if_pos rfl, if_pos (hd.mpr c2)]
      exact ⟨0, s1, rfl, Or.inr ⟨rfl, h1⟩, o1⟩
    rw [if_neg (fun z => c2 (hd.mp z))]
    obtain ⟨s1, e1, h1, o1⟩ := a_opens (by omega) h hp (by omega)
    obtain ⟨x, s2, e2, h2, o2⟩ := hN (by omega) (en (gB b sz) p) s1 (en_le hp) h1
    rw [e1, bi2_s, if_neg one_ne, e2, bi2_s, lt_eqq]
    rcases h2 with ⟨hr, hx, h2⟩ | ⟨hr, h2⟩
    · rw [rb_t hr, h2.2.2.1, nI_pred]
      rw [fM_off o1] at hx
      by_cases c3 : x = 0
      · rw [if_pos c3]
        refine ⟨1, _, rfl, Or.inl ⟨rfl, ?_, h2.s19⟩, o1.tr (o2.tr o19)⟩
        show (1 : Int32) = (if (sN (en (gB b sz) p)).2.2.2 (fM τ) = 0 then 1 else 0)
        rw [← hx, if_pos c3]
      · rw [if_neg c3]
        refine ⟨0, _, rfl, Or.inl ⟨rfl, ?_, h2.s19⟩, o1.tr (o2.tr o19)⟩
        show (0 : Int32) = (if (sN (en (gB b sz) p)).2.2.2 (fM τ) = 0 then 1 else 0)
        rw [← hx, if_neg c3]
    · rw [rb_f hr]
      by_cases c3 : x = 0
      · rw [if_pos c3]; exact ⟨_, _, rfl, Or.inr ⟨rfl, h2.s19⟩, o1.tr (o2.tr o19)⟩
      · rw [if_neg c3]; exact ⟨_, _, rfl, Or.inr ⟨rfl, h2.s19⟩, o1.tr (o2.tr o19)⟩
  rw [if_neg (dec_f (show ¬ _ = 10000 + 11 from c1)), if_neg c1, PC]
  obtain ⟨x, s1, e1, h1, o1⟩ := hS p τ hp h
  have hw1 := hw p hp
  rw [e1, bi2_s]
  rcases h1 with ⟨hr, hx, h1⟩ | ⟨hr, h1⟩
  · rw [rb_t hr, a_sign h1 (w := 6) (v := 60) (by omega) rfl, bi2_s, if10]
    have go : ∀ (y0 : Int32) (cc : Nat), cd (gB b sz) (sub p).2.1 = cc → (cc = 10018 ∨ cc = 10019) → (∀ u v : Int32, (if y0 = 0 then (if u = v then (1 : Int32) else 0) else (if v ≤ u then 0 else 1)) = jn cc u v) → ∃ y τ', c_X9_not_85 kE kN kO x y0 s1 = some (y, τ') ∧ OutM b sz t o (rb (sub (en (gB b sz) (sub p).2.1)) (fun q' c' v' => (true, q', (sub p).2.2.1 ++ c' ++ [cd (gB b sz) (sub p).2.1], fun f => jn (cd (gB b sz) (sub p).2.1) ((sub p).2.2.2 f) (v' f)))) y τ τ' ∧ Off SM τ τ' := by
      intro y0 cc hcc hc2 hj
      obtain ⟨s2, e2, h2, o2⟩ := a_next h1 hw1.1 (by omega)
      obtain ⟨y, s3, e3, h3, o3⟩ := hS (en (gB b sz) (sub p).2.1) s2 (en_le hw1.1) h2
      have e4 : c_X9_not_85 kE kN kO x y0 s1 = some (jn cc x y, s3) := by
        rw [c_X9_not_85, e2, bi1_s, e3, bi2_s, ← hj]
        by_cases z0 : y0 = 0
        · rw [if_pos z0, if_pos z0]
          by_cases z1 : x = y
          · rw [if_pos z1, if_pos z1]
          · rw [if_neg z1, if_neg z1]
        · rw [if_neg z0, if_neg z0]
          by_cases z1 : y ≤ x
          · rw [if_pos z1, if_pos z1]
          · rw [if_neg z1, if_neg z1]
      refine ⟨_, s3, e4, ?_, o1.tr (o2.tr o3)⟩
      rcases h3 with ⟨hr2, hx2, h3⟩ | ⟨hr2, h3⟩
      · rw [rb_t hr2, hcc]
        refine Or.inl ⟨rfl, ?_, h3⟩
        rw [hx, hx2, fM_off (o1.tr o2)]
      · rw [rb_f hr2]
        exact Or.inr ⟨rfl, h3⟩
    by_cases c2 : cd (gB b sz) (sub p).2.1 = 10018
    · rw [if_pos (dec_t (show _ = 10012 + 6 from c2)), if_pos (by rw [oC, dec_t c2]; rfl), c_X9_not_69, h1.2.1.2.1.sg (s := 6) (by omega) c2, if_pos ((lg_cmp_eq _ _).mpr (show (sgB 6).toInt64 = 60 by decide))]
      exact go 1 10018 c2 (Or.inl rfl) (fun u v => by rw [if_neg one_ne, jn18])
    rw [if_neg (dec_f (show ¬ _ = 10012 + 6 from c2)), a_sign h1 (w := 7) (v := 61) (by omega) rfl, bi2_s, if10]
    by_cases c3 : cd (gB b sz) (sub p).2.1 = 10019
    · rw [if_pos (dec_t (show _ = 10012 + 7 from c3)), if_pos (by rw [oC, dec_t c3, Bool.or_true]), c_X9_not_69, h1.2.1.2.1.sg (s := 7) (by omega) c3, if_neg (fun z => absurd ((lg_cmp_eq _ _).mp z) (by decide))]
      exact go 0 10019 c3 (Or.inr rfl) (fun u v => by rw [if_pos rfl, jn19])
    · rw [if_neg (dec_f (show ¬ _ = 10012 + 7 from c3)), if_neg (by rw [oC, decide_eq_false c2, decide_eq_false c3]; decide)]
      exact ⟨x, s1, rfl, Or.inl ⟨rfl, hx, h1⟩, o1⟩
  · rw [rb_f hr, bad_isSign h1.1, bi2_s, if_pos rfl, bad_isSign h1.1, bi2_s, if_pos rfl]
    exact ⟨x, s1, rfl, Or.inr ⟨rfl, h1⟩, o1⟩
theorem sim_levM {b : Nat → Nat} {sz t o : Nat} {kE kN kO : HS → Option (Int32 × HS)} {sF sN sO : Nat → Rs} {dp : Bool} (ho : o ≤ 5) (hd : dp = true ↔ o = 5) (wF : Wf sz sF) (wN : Wf sz sN) (wO : Wf sz sO) (hF : o < 5 → SimM b sz t (o + 1) kE sF) (hN : o < 5 → SimM b sz t (o + 1) kN sN) (hO : o < 5 → SimM b sz t (o + 1) kO sO) :
    SimM b sz t o (c_X9_either kE kN kO) (PFm (gB b sz) sF sN sO dp) ∧ SimM b sz t o (c_X9_not kE kN kO) (PNt (gB b sz) sF sN sO dp) ∧ SimM b sz t o (c_X9_one kE kN kO) (P1 (gB b sz) sF sO dp) := by
  have h1 := sim_oneM (kN := kN) ho hd wF hF hO
  have w1 : Wf sz (P1 (gB b sz) sF sO dp) := P1_wf wF wO
  have h2 : SimM b sz t o (c_X9_term kE kN kO) (PBn (gB b sz) (P1 (gB b sz) sF sO dp) oT) := sim_bnM (L := c_X9_term_5 kE kN kO) rfl rfl w1 h1 l1M_T l0M_T
  have w2 : Wf sz (PBn (gB b sz) (P1 (gB b sz) sF sO dp) oT) := PBn_wf rfl w1
  have h3 : SimM b sz t o (c_X9_added kE kN kO) (PSm (gB b sz) sF sO dp) := sim_bnM (L := c_X9_added_5 kE kN kO) rfl rfl w2 h2 l1M_S l0M_S
  have w3 : Wf sz (PSm (gB b sz) sF sO dp) := PSm_wf wF wO
  have h4 : SimM b sz t o (c_X9_not kE kN kO) (PNt (gB b sz) sF sN sO dp) := sim_notM ho hd w3 hN h3
  have w4 : Wf sz (PNt (gB b sz) sF sN sO dp) := PNt_wf wF wN wO
  have h5 : SimM b sz t o (c_X9_both kE kN kO) (PBn (gB b sz) (PNt (gB b sz) sF sN sO dp) oA) := sim_bnM (L := c_X9_both_5 kE kN kO) rfl rfl w4 h4 l1M_A l0M_A
  have h6 : SimM b sz t o (c_X9_either kE kN kO) (PFm (gB b sz) sF sN sO dp) := sim_bnM (L := c_X9_either_5 kE kN kO) rfl rfl (PBn_wf rfl w4) h5 l1M_O l0M_O
  exact ⟨h6, h4, h1⟩
theorem sim_allM {b : Nat → Nat} {sz t : Nat} : ∀ d, d ≤ 5 → ∀ e, d ≤ e → SimM b sz t (5 - d) (rdM (e + 1)).1 (pz (gB b sz) d).1 ∧ SimM b sz t (5 - d) (rdM (e + 1)).2.1 (pz (gB b sz) d).2.1 ∧ SimM b sz t (5 - d) (rdM (e + 1)).2.2 (pz (gB b sz) d).2.2 := by
  intro d
  induction d with
  | zero => intro _ e _; exact sim_levM (by omega) ⟨fun _ => rfl, fun _ => rfl⟩ nok_Wf nok_Wf nok_Wf (fun z => by omega) (fun z => by omega) (fun z => by omega)
  | succ d ih =>
    intro hd e he
    obtain ⟨e', rfl⟩ : ∃ e', e = e' + 1 := ⟨e - 1, by omega⟩
    have h := ih (by omega) e' (by omega)
    rw [show 5 - d = 5 - (d + 1) + 1 by omega] at h
    have w := pz_wf (b := b) (sz := sz) d
    exact sim_levM (by omega) ⟨fun z => (by cases z), fun z => (by omega)⟩ w.1 w.2.1 w.2.2 (fun _ => h.1) (fun _ => h.2.1) (fun _ => h.2.2)
theorem sim_E {b : Nat → Nat} {sz t : Nat} : SimM b sz t 0 c_rmE (pz (gB b sz) 5).1 := (sim_allM 5 (by omega) 6 (by omega)).1
theorem a_part {b : Nat → Nat} {sz t p w : Nat} {v : Int64} {τ : HS} (hw : w < 12) (hv : v = Ww w) (h : AtM b sz t p 0 τ) (hp : p ≤ sz) : ∃ x τ', c_X9_part v τ = some (x, τ') ∧ OutM b sz t 0 (PPt (gB b sz) (10000 + w) p) x τ τ' ∧ Off SM τ τ' := by
  have p38 : ∀ {s : Int32} {υ : HS} (y : Int32), BdM s υ → c_X9_part_38 y υ = some (y, υ) := by
    intro s υ y hb
    rw [c_X9_part_38, bad_isSign hb.1, bi2_s, if_pos rfl, b_fail hb, bi1_s, c_X9_part_52, if_neg hb.n0]
  rw [c_X9_part, a_word h hw hv, bi2_s, if10, PPt]
  by_cases c1 : cd (gB b sz) p = 10000 + w
  · rw [if_pos (dec_t c1), if_pos c1, c_X9_part_12, if_pos h.2.2.2]
    obtain ⟨s1, e1, h1, o1⟩ := a_next h hp (by omega)
    obtain ⟨x, s2, e2, h2, o2⟩ := sim_E (en (gB b sz) p) s1 (en_le hp) h1
    have hw2 := (pz_wf (b := b) 5).1 (en (gB b sz) p) (en_le hp)
    rw [e1, bi1_s, c_X9_part_23, if_pos h1.2.2.2, e2, bi2_s]
    rcases h2 with ⟨hr, hx, h2⟩ | ⟨hr, h2⟩
    · rw [rb_t hr, c_X9_part_38, a_sign h2 (w := 2) (v := 59) (by omega) rfl, bi2_s, if10]
      by_cases c5 : cd (gB b sz) ((pz (gB b sz) 5).1 (en (gB b sz) p)).2.1 = 10014
      · obtain ⟨s3, e3, h3, o3⟩ := a_next h2 hw2.1 (by omega)
        rw [if_pos (dec_t (show _ = 10012 + 2 from c5)), if_pos c5, c_X9_part_52, if_pos h2.2.2.2, e3, bi1_s]
        exact ⟨x, s3, rfl, Or.inl ⟨rfl, by rw [hx, fM_off o1], h3⟩, o1.tr (o2.tr o3)⟩
      · obtain ⟨s3, e3, h3, o3⟩ := a_fail h2
        rw [if_neg (dec_f (show ¬ _ = 10012 + 2 from c5)), if_neg c5, e3, bi1_s, c_X9_part_52, if_neg h3.n0]
        exact ⟨x, s3, rfl, Or.inr ⟨rfl, h3⟩, o1.tr (o2.tr o3)⟩
    · rw [rb_f hr, p38 x h2]
      exact ⟨x, s2, rfl, Or.inr ⟨rfl, h2⟩, o1.tr o2⟩
  · obtain ⟨s1, e1, h1, o1⟩ := a_fail h
    rw [if_neg (dec_f c1), if_neg c1, e1, bi1_s, c_X9_part_12, if_neg h1.n0, c_X9_part_23, if_neg h1.n0, p38 0 h1]
    exact ⟨0, s1, rfl, Or.inr ⟨rfl, h1⟩, o1⟩
theorem SM_SR {τ υ : HS} (o : Off SM τ υ) : Off SR τ υ := o.mono fun i k z => by unfold SM at z; unfold SR; omega
theorem m_read {b : Nat → Nat} {sz t wh : Nat} {fd lks : Int32} {τ : HS} (hB : sz ≤ 160 ∧ ∀ k, k < sz → b k < 256) (ht : t < 6) (hs : gI τ 2 t = nI sz) (hb : ∀ k, k < sz → gI τ 1 (160 * t + k) = nI (b k)) (hwh : wh < 3) : ∃ x τ', c_X9_read (nI t) fd lks (nI wh) τ = some (x, τ') ∧ ((Pok (gB b sz) ∧ x = Pvl (gB b sz) wh (fct τ fd lks) ∧ gI τ' 0 20 = 0) ∨ (¬ Pok (gB b sz) ∧ gI τ' 0 20 = 1 ∧ gI τ' 0 21 = nI (Pfl (gB b sz)))) ∧ Off SR τ τ' := by
  obtain ⟨s7, e7⟩ : ∃ z, z = sI (sI (sI (sI (sI (sI (sI τ 0 22 fd) 0 23 lks) 0 13 (nI (160 * t))) 0 14 (nI sz)) 0 18 (nI 0)) 0 19 (nI 0)) 0 20 0 := ⟨_, rfl⟩
  have T7 : TpM b sz t s7 := by
    refine ⟨hB, ht, ?_, ?_, fun k hk => ?_⟩
    · rw [e7, sI_k (by omega), sI_k (by omega), sI_k (by omega), sI_k (by omega), sI_at]
    · rw [e7, sI_k (by omega), sI_k (by omega), sI_k (by omega), sI_at]
    · rw [e7, sI_i (by omega), sI_i (by omega), sI_i (by omega), sI_i (by omega), sI_i (by omega), sI_i (by omega), sI_i (by omega)]; exact hb k hk
  have g18 : gI s7 0 18 = nI 0 := by rw [e7, sI_k (by omega), sI_k (by omega), sI_at]
  have g19 : gI s7 0 19 = nI 0 := by rw [e7, sI_k (by omega), sI_at]
  have g20 : gI s7 0 20 = 0 := by rw [e7, sI_at]
  have f7 : fM s7 = fct τ fd lks := by
    have k1 : ∀ k, (k < 13 ∨ 23 < k) → gI s7 0 k = gI τ 0 k := fun k hk => by rw [e7, sI_k (by omega), sI_k (by omega), sI_k (by omega), sI_k (by omega), sI_k (by omega), sI_k (by omega), sI_k (by omega)]
    have k2 : gI s7 0 22 = fd := by rw [e7, sI_k (by omega), sI_k (by omega), sI_k (by omega), sI_k (by omega), sI_k (by omega), sI_k (by omega), sI_at]
    have k3 : gI s7 0 23 = lks := by rw [e7, sI_k (by omega), sI_k (by omega), sI_k (by omega), sI_k (by omega), sI_k (by omega), sI_at]
    rw [fM, k2, k3]
    funext k
    rw [fct, fct, k1 8 (by omega), k1 12 (by omega), k1 10 (by omega), k1 11 (by omega)]
  have o7 : Off SR τ s7 := by
    rw [e7]
    have q : ∀ k, 13 ≤ k → k ≤ 23 → SR 0 k := fun k h1 h2 => ⟨rfl, h1, h2⟩
    exact (Off.sI (q 22 (by omega) (by omega))).tr ((Off.sI (q 23 (by omega) (by omega))).tr ((Off.sI (q 13 (by omega) (by omega))).tr ((Off.sI (q 14 (by omega) (by omega))).tr ((Off.sI (q 18 (by omega) (by omega))).tr ((Off.sI (q 19 (by omega) (by omega))).tr (Off.sI (q 20 (by omega) (by omega))))))))
  have hd : c_X9_read (nI t) fd lks (nI wh) τ = bi1 (c_X9_next1 s7) (fun s17 => bi2 (c_X9_part 168755 s17) (fun r20 s19 => if gI s19 0 20 = 0 then bi2 (c_X9_part 385268 s19) (fun r24 s23 => c_X9_read_75 (nI wh) r20 r24 s23) else c_X9_read_75 (nI wh) r20 0 s19)) := by
    rw [c_X9_read, lt_eqq, lt_eqq, lt_eqq, if_pos (inb_nI (by omega) (by omega)), lt_eqq, lt_eqq, lt_eqq, lt_eqq, ix_nI (by omega), sI_i (by omega), sI_i (by omega), sI_i (by omega), hs, show (160 : Int32) = nI 160 from rfl, nI_mul, e7]
    rfl
  have r115 : ∀ x y z (υ : HS), c_X9_read_115 (nI wh) x y z υ = some (if wh = 0 then x else if wh = 1 then y else z, υ) := by
    intro x y z υ
    rw [c_X9_read_115, show (1 : Int32) = nI 1 from rfl, ← nI_0]
    by_cases w0 : wh = 0
    · rw [if_pos (by rw [w0]), if_pos w0]
    rw [if_neg (fun q => w0 ((nI_eq (by omega) (by omega)).mp q)), if_neg w0]
    by_cases w1 : wh = 1
    · rw [if_pos (by rw [w1]), if_pos w1]
    · rw [if_neg (fun q => w1 ((nI_eq (by omega) (by omega)).mp q)), if_neg w1]
  obtain ⟨s8, e8, h8, o8⟩ := n_next T7 g18 g19 g20 (Nat.zero_le _)
  obtain ⟨x0, s9, e9, h9, o9⟩ := a_part (w := 6) (by omega) W_6 h8 (Nat.zero_le _)
  have w0 := PPt_wf (b := b) (sz := sz) (key := 10006) (p := 0) (Nat.zero_le _) (by omega)
  rw [hd, e8, bi1_s, e9, bi2_s]
  change (P0t (gB b sz)).2.1 ≤ sz ∧ ((P0t (gB b sz)).1 = true → _) at w0
  change ((P0t (gB b sz)).1 = true ∧ x0 = (P0t (gB b sz)).2.2.2 (fM s8) ∧ AtM b sz t (P0t (gB b sz)).2.1 0 s9) ∨ ((P0t (gB b sz)).1 = false ∧ BdM (nI (st (gB b sz) (P0t (gB b sz)).2.1)) s9) at h9
  have f8 : fM s8 = fct τ fd lks := by rw [fM_off o8, f7]
  have f9 : fM s9 = fct τ fd lks := by rw [fM_off o9, f8]
  have o9 := o7.tr (SM_SR (o8.tr o9))
  rcases h9 with ⟨q0, y0, h9⟩ | ⟨q0, h9⟩
  · obtain ⟨x1, s10, e10, h10, o10⟩ := a_part (w := 7) (by omega) W_7 h9 w0.1
    have w1 := PPt_wf (b := b) (sz := sz) (key := 10007) (p := (P0t (gB b sz)).2.1) w0.1 (by omega)
    rw [if_pos h9.2.2.2, e10, bi2_s, c_X9_read_75]
    change (P1t (gB b sz)).2.1 ≤ sz ∧ ((P1t (gB b sz)).1 = true → _) at w1
    change ((P1t (gB b sz)).1 = true ∧ x1 = (P1t (gB b sz)).2.2.2 (fM s9) ∧ AtM b sz t (P1t (gB b sz)).2.1 0 s10) ∨ ((P1t (gB b sz)).1 = false ∧ BdM (nI (st (gB b sz) (P1t (gB b sz)).2.1)) s10) at h10
    have f10 : fM s10 = fct τ fd lks := by rw [fM_off o10, f9]
    have o10 := o9.tr (SM_SR o10)
    rcases h10 with ⟨q1, y1, h10⟩ | ⟨q1, h10⟩
    · obtain ⟨x2, s11, e11, h11, o11⟩ := a_part (w := 8) (by omega) W_8 h10 w1.1
      rw [if_pos h10.2.2.2, e11, bi2_s, c_X9_read_95]
      change ((P2t (gB b sz)).1 = true ∧ x2 = (P2t (gB b sz)).2.2.2 (fM s10) ∧ AtM b sz t (P2t (gB b sz)).2.1 0 s11) ∨ ((P2t (gB b sz)).1 = false ∧ BdM (nI (st (gB b sz) (P2t (gB b sz)).2.1)) s11) at h11
      have o11 := o10.tr (SM_SR o11)
      rcases h11 with ⟨q2, y2, h11⟩ | ⟨q2, h11⟩
      · rw [if_pos h11.2.2.2]
        have k15 : (gI s11 0 15 = 0) ↔ cd (gB b sz) (P2t (gB b sz)).2.1 = 10021 := by
          have kk : ¬ (1 : Int32) = 0 ∧ ¬ (2 : Int32) = 0 ∧ ¬ (3 : Int32) = 0 ∧ ¬ (4 : Int32) = 0 := by decide
          rcases h11.2.1.2.1 with ⟨hc, h⟩ | ⟨v, hv, hc, h, hJ⟩ | ⟨hc, h, hJ⟩ | ⟨v, hv, hc, h, hJ⟩ | ⟨hc, h⟩
          · exact ⟨fun _ => hc, fun _ => h⟩
          · rw [h]; exact ⟨fun z => absurd z kk.1, fun z => by omega⟩
          · rw [h]; exact ⟨fun z => absurd z kk.2.1, fun z => by omega⟩
          · rw [sgC] at hc
            rw [h]; exact ⟨fun z => absurd z kk.2.2.1, fun z => by omega⟩
          · refine ⟨fun z => ?_, fun z => by omega⟩
            rcases h with h | ⟨h, _⟩
            · rw [h] at z; exact absurd z kk.2.2.2
            · rw [h] at z; exact absurd z kk.1
        by_cases c : cd (gB b sz) (P2t (gB b sz)).2.1 = 10021
        · rw [if_pos (k15.mpr c), r115]
          refine ⟨_, s11, rfl, Or.inl ⟨⟨q0, q1, q2, c⟩, ?_, h11.2.2.2⟩, o11⟩
          rw [Pvl, y0, y1, y2, f8, f9, f10]
          by_cases z0 : wh = 0
          · rw [if_pos z0, if_pos z0]
          rw [if_neg z0, if_neg z0]
          by_cases z1 : wh = 1
          · rw [if_pos z1, if_pos z1]
          · rw [if_neg z1, if_neg z1]
        · obtain ⟨s12, e12, h12, o12⟩ := a_fail h11
          rw [if_neg (fun z => c (k15.mp z)), e12, bi1_s, r115]
          exact ⟨_, s12, rfl, Or.inr ⟨fun z => c z.2.2.2, h12.1, by rw [h12.2, Pfl, if_pos q0, if_pos q1]⟩, o11.tr (SM_SR o12)⟩
      · rw [if_neg h11.n0, r115]
        exact ⟨_, s11, rfl, Or.inr ⟨fun z => (by rw [z.2.2.1] at q2; cases q2), h11.1, by rw [h11.2, Pfl, if_pos q0, if_pos q1]⟩, o11⟩
    · rw [if_neg h10.n0, c_X9_read_95, if_neg h10.n0, r115]
      exact ⟨_, s10, rfl, Or.inr ⟨fun z => (by rw [z.2.1] at q1; cases q1), h10.1, by rw [h10.2, Pfl, if_pos q0, if_neg (by rw [q1]; decide)]⟩, o10⟩
  · rw [if_neg h9.n0, c_X9_read_75, if_neg h9.n0, c_X9_read_95, if_neg h9.n0, r115]
    exact ⟨_, s9, rfl, Or.inr ⟨fun z => (by rw [z.1] at q0; cases q0), h9.1, by rw [h9.2, Pfl, if_neg (by rw [q0]; decide)]⟩, o9⟩
