/-! PARSING by the reader -/
theorem nv_lt {b : Nat → Nat} {sz s : Nat} (hb : ∀ k, k < sz → b k < 256) : ∀ k, (∀ i, i < k → pD (gB b sz (s + i)) = true) → nvN (gB b sz) s k < 10 ^ k := by
  intro k
  induction k with
  | zero => intro _; exact Nat.zero_lt_one
  | succ k ih =>
    intro hl
    have := ih fun i hi => hl i (by omega)
    obtain ⟨d, hd, e⟩ := gB_D hb (hl k (by omega))
    rw [nvN, e, ix_nI (by omega), Nat.pow_succ]
    omega
theorem cd_lt {b : Nat → Nat} {sz : Nat} (hb : ∀ k, k < sz → b k < 256) (p : Nat) : cd (gB b sz) p ≤ 10022 := by
  rw [cd, cdS]
  by_cases c : gB b sz (st (gB b sz) p) = -1
  · rw [if_pos c]; omega
  rw [if_neg c]
  by_cases c2 : pL (gB b sz (st (gB b sz) p)) = true
  · rw [if_pos c2]
    rcases wcd_cases (gB b sz) (st (gB b sz) p) (rn pL (gB b sz) 160 (st (gB b sz) p)) with ⟨w, hw, h, _⟩ | ⟨h, _⟩
    · omega
    · omega
  rw [if_neg c2]
  by_cases c3 : pD (gB b sz (st (gB b sz) p)) = true
  · rw [if_pos c3, ncd]
    by_cases c4 : rn pD (gB b sz) 160 (st (gB b sz) p) - st (gB b sz) p ≤ 4
    · rw [if_pos c4]
      have h := nv_lt hb (s := st (gB b sz) p) (rn pD (gB b sz) 160 (st (gB b sz) p) - st (gB b sz) p) fun i hi => rn_in 160 (st (gB b sz) p) _ (by omega) (by omega)
      have h4 : (10 : Nat) ^ (rn pD (gB b sz) 160 (st (gB b sz) p) - st (gB b sz) p) ≤ 10 ^ 4 := Nat.pow_le_pow_right (by omega) c4
      omega
    · rw [if_neg c4]; omega
  rw [if_neg c3]
  rcases sgc_cases (gB b sz (st (gB b sz) p)) with ⟨w, hw, h, _⟩ | ⟨h, _⟩
  · rw [h, sgC]; omega
  · omega
def SPx (j i k : Nat) : Prop := (i = 14 ∧ 2 ≤ k ∧ k ≤ 4) ∨ (i = j ∧ k = 1) ∨ i = j + 1
def CsX (j : Nat) (cs : List Nat) (σ : HS) : Prop := gI σ j 1 = nI cs.length ∧ ∀ k, k < cs.length → gI σ (j + 1) k = nI (cs.getD k 0)
def RdX (b : Nat → Nat) (sz j p : Nat) (cs : List Nat) (σ : HS) : Prop := TpX b sz σ ∧ gR σ 14 1 = some j ∧ (gI σ 14 2 = nI (cd (gB b sz) p) ∧ gI σ 14 3 = nI (st (gB b sz) p) ∧ gI σ 14 4 = nI (en (gB b sz) p)) ∧ CsX j cs σ
def FlX (j : Nat) (s : Int32) (σ : HS) : Prop := gR σ 14 1 = some j ∧ gI σ 14 3 = s ∧ ∃ L, L ≤ 160 ∧ gI σ j 1 = nI L
theorem gd_l {l : List Nat} {x k : Nat} (h : k < l.length) : (l ++ [x]).getD k 0 = l.getD k 0 := by rw [List.getD_eq_getElem?_getD, List.getD_eq_getElem?_getD, List.getElem?_append_left h]
theorem gd_r {l : List Nat} {x : Nat} : (l ++ [x]).getD l.length 0 = x := by
  rw [List.getD_eq_getElem?_getD, List.getElem?_append_right (Nat.le_refl _), Nat.sub_self]
  rfl
theorem CsX.t3 {j : Nat} {cs : List Nat} {σ : HS} {x y z : Int32} (h : CsX j cs σ) (hj : 20 ≤ j) : CsX j cs (t3 σ 14 2 x y z) :=
  ⟨by rw [t3_ne (by omega)]; exact h.1, fun k hk => by rw [t3_ne (by omega)]; exact h.2 k hk⟩
theorem TpX.t3 {b : Nat → Nat} {sz : Nat} {σ : HS} {x y z : Int32} (h : TpX b sz σ) : TpX b sz (t3 σ 14 2 x y z) := h.sI.sI.sI
theorem s_take0 {b : Nat → Nat} {sz j p : Nat} {cs : List Nat} {σ : HS} (h : TpX b sz σ) (hr : gR σ 14 1 = some j) (h4 : gI σ 14 4 = nI p) (hc : CsX j cs σ) (hp : p ≤ sz) (hj : 20 ≤ j) : ∃ σ', c_X2_take σ = some σ' ∧ RdX b sz j p cs σ' ∧ Off (SPx j) σ σ' := by
  refine ⟨_, x_take h h4 hp, ⟨h.t3, hr, ⟨?_, ?_, ?_⟩, hc.t3 hj⟩, Off.t3 (Or.inl ⟨rfl, by omega, by omega⟩) (Or.inl ⟨rfl, by omega, by omega⟩) (Or.inl ⟨rfl, by omega, by omega⟩)⟩
  · rw [gI_t3, if_neg (by omega), if_neg (by omega), if_pos ⟨rfl, rfl⟩]
  · rw [gI_t3, if_neg (by omega), if_pos ⟨rfl, rfl⟩]
  · rw [gI_t3, if_pos ⟨rfl, rfl⟩]
theorem s_take {b : Nat → Nat} {sz j p : Nat} {cs : List Nat} {σ : HS} (h : RdX b sz j p cs σ) (hp : p ≤ sz) (hj : 20 ≤ j) : ∃ σ', c_X2_take σ = some σ' ∧ RdX b sz j (en (gB b sz) p) cs σ' ∧ Off (SPx j) σ σ' := s_take0 h.1 h.2.1 h.2.2.1.2.2 h.2.2.2 (en_le hp) hj
theorem add_is {j L : Nat} {v : Int32} {σ : HS} (h : gI σ j 1 = nI L) (hL : L < 160) : c_X6_add j v σ = some (sI (sI σ (j + 1) L v) j 1 (nI (L + 1))) := by
  rw [c_X6_add, h, if_neg (by rw [show (160 : Int32) = nI 160 from rfl, nI_leI (by omega) (by omega)]; omega), if_pos (inb_nI (by omega) (by omega)), lt_eqq, lt_eqq, ix_nI (by omega), sI_i (by omega), h, nI_1]
theorem s_add {b : Nat → Nat} {sz j p : Nat} {cs : List Nat} {σ : HS} (h : RdX b sz j p cs σ) (hj : 20 ≤ j) (hl : cs.length < 160) (c : Nat) : ∃ σ', c_X6_add j (nI c) σ = some σ' ∧ RdX b sz j p (cs ++ [c]) σ' ∧ Off (SPx j) σ σ' := by
  obtain ⟨⟨ht1, ht2, ht3, ht4⟩, hr, ⟨h2, h3, h4⟩, hc1, hc2⟩ := h
  have n14 : ∀ k, gI (sI (sI σ (j + 1) cs.length (nI c)) j 1 (nI (cs.length + 1))) 14 k = gI σ 14 k := fun k => by rw [sI_i (by omega), sI_i (by omega)]
  refine ⟨_, add_is hc1 hl, ⟨⟨ht1, ?_, fun k hk => ?_, ht4⟩, hr, ⟨?_, ?_, ?_⟩, ?_, fun k hk => ?_⟩, (Off.sI (Or.inr (Or.inr rfl))).tr (Off.sI (Or.inr (Or.inl ⟨rfl, rfl⟩)))⟩
  · rw [sI_i (by omega), sI_i (by omega)]; exact ht2
  · rw [sI_i (by omega), sI_i (by omega)]; exact ht3 k hk
  · rw [n14]; exact h2
  · rw [n14]; exact h3
  · rw [n14]; exact h4
  · rw [sI_at, List.length_append, List.length_singleton]
  · rw [List.length_append, List.length_singleton] at hk
    rw [sI_i (by omega)]
    by_cases e : k = cs.length
    · rw [e, sI_at, gd_r]
    · rw [sI_k e, gd_l (by omega)]; exact hc2 k (by omega)
theorem s_addF {j : Nat} {s v : Int32} {σ : HS} (h : FlX j s σ) (hj : 20 ≤ j) : ∃ σ', c_X6_add j v σ = some σ' ∧ FlX j s σ' ∧ Off (SPx j) σ σ' := by
  obtain ⟨hr, h3, L, hL, hl⟩ := h
  by_cases c : L < 160
  · refine ⟨_, add_is hl c, ⟨hr, ?_, L + 1, by omega, sI_at _ _ _ _⟩, (Off.sI (Or.inr (Or.inr rfl))).tr (Off.sI (Or.inr (Or.inl ⟨rfl, rfl⟩)))⟩
    rw [sI_i (by omega), sI_i (by omega)]; exact h3
  · refine ⟨σ, ?_, ⟨hr, h3, L, hL, hl⟩, Off.rf⟩
    rw [c_X6_add, hl, if_pos (by rw [show (160 : Int32) = nI 160 from rfl, nI_leI (by omega) (by omega)]; omega)]
def OutX (b : Nat → Nat) (sz j : Nat) (cs : List Nat) (r : Rs) (x : Int32) (σ : HS) : Prop := (r.1 = true ∧ x = 1 ∧ RdX b sz j r.2.1 (cs ++ r.2.2.1) σ) ∨ (r.1 = false ∧ x = 0 ∧ FlX j (nI (st (gB b sz) r.2.1)) σ)
def SimX (b : Nat → Nat) (sz j : Nat) (f : HS → Option (Int32 × HS)) (sub : Nat → Rs) : Prop := ∀ p cs σ, p ≤ sz → cs.length ≤ p → RdX b sz j p cs σ → ∃ x σ', f σ = some (x, σ') ∧ OutX b sz j cs (sub p) x σ' ∧ Off (SPx j) σ σ'
theorem RdX.fl {b : Nat → Nat} {sz j p : Nat} {cs : List Nat} {σ : HS} (h : RdX b sz j p cs σ) (hp : p ≤ sz) (hc : cs.length ≤ p) : FlX j (nI (st (gB b sz) p)) σ := ⟨h.2.1, h.2.2.1.2.1, cs.length, by have := h.1.1.1; omega, h.2.2.2.1⟩
theorem rb_t {r : Rs} {k : Nat → List Nat → Vf → Rs} (h : r.1 = true) : rb r k = k r.2.1 r.2.2.1 r.2.2.2 := if_pos h
theorem rb_f {r : Rs} {k : Nat → List Nat → Vf → Rs} (h : r.1 = false) : rb r k = nok r.2.1 := if_neg (by rw [h]; decide)
theorem isz1 : isz 1 = true := by decide
theorem isz0 : isz 0 = true := by decide
theorem sim_one {b : Nat → Nat} {sz j o : Nat} {kF kN kO : Int32 → HS → Option (Int32 × HS)} {sF sO : Nat → Rs} {dp : Bool} (hj : 20 ≤ j) (ho : o ≤ 5) (hd : dp = true ↔ o = 5) (wF : Wf sz sF) (wO : Wf sz sO) (hF : o < 5 → SimX b sz j (kF (nI (o + 1))) sF) (hO : o < 5 → SimX b sz j (kO (nI (o + 1))) sO) : SimX b sz j (c_X2_readOne kF kN kO (nI o)) (P1 (gB b sz) sF sO dp) := by
  intro p cs σ hp hc h
  have hz := h.1.1.1
  have hcd := cd_lt h.1.1.2 p
  rw [c_X2_readOne, P1, h.2.2.1.1, show (10006 : Int32) = nI 10006 from rfl, show (10016 : Int32) = nI 10016 from rfl, show (10012 : Int32) = nI 10012 from rfl, show (5 : Int32) = nI 5 from rfl]
  by_cases c1 : cd (gB b sz) p < 10006
  · have hg := en_gt (b := b) (sz := sz) (p := p) (by omega)
    have hl := en_le (b := b) hp
    rw [if_neg (by rw [nI_leI (by omega) (by omega)]; omega), if_pos c1, h.2.1, mr_s]
    obtain ⟨s1, e1, h1, o1⟩ := s_add h hj (by omega) (cd (gB b sz) p)
    obtain ⟨s2, e2, h2, o2⟩ := s_take h1 hp hj
    rw [e1, bi1_s, e2, bi1_s]
    exact ⟨1, s2, rfl, Or.inl ⟨rfl, rfl, h2⟩, o1.tr o2⟩
  rw [if_pos (by rw [nI_leI (by omega) (by omega)]; omega), if_neg c1]
  have bad : ∀ r, r = nok p → ∃ x σ', some ((0 : Int32), σ) = some (x, σ') ∧ OutX b sz j cs r x σ' ∧ Off (SPx j) σ σ' := by
    intro r hr
    rw [hr]
    exact ⟨0, σ, rfl, Or.inr ⟨rfl, rfl, h.fl hp hc⟩, Off.rf⟩
  by_cases c2 : o = 5
  · rw [if_neg (by rw [nI_ltI (by omega) (by omega)]; omega), if_pos (hd.mpr c2)]
    exact bad _ rfl
  rw [if_pos (by rw [nI_ltI (by omega) (by omega)]; omega), if_neg (fun z => c2 (hd.mp z))]
  by_cases c3 : cd (gB b sz) p = 10016
  · have hg := en_gt (b := b) (sz := sz) (p := p) (by omega)
    have hl := en_le (b := b) hp
    rw [if_pos (by rw [c3]), if_pos c3]
    obtain ⟨s1, e1, h1, o1⟩ := s_take h hp hj
    obtain ⟨x, s2, e2, h2, o2⟩ := hO (by omega) (en (gB b sz) p) cs s1 hl (by omega) h1
    have hw := wO (en (gB b sz) p) hl
    rw [e1, bi1_s, nI_1, e2, bi2_s]
    rcases h2 with ⟨hr, rfl, h2⟩ | ⟨hr, rfl, h2⟩
    · have := hw.2 hr
      rw [h2.2.1, mr_s]
      obtain ⟨s3, e3, h3, o3⟩ := s_add h2 hj (by rw [List.length_append]; omega) 10020
      rw [show (10020 : Int32) = nI 10020 from rfl, e3, bi1_s, if_pos isz1, rb_t hr]
      exact ⟨1, s3, rfl, Or.inl ⟨rfl, rfl, by rw [← List.append_assoc]; exact h3⟩, o1.tr (o2.tr o3)⟩
    · rw [h2.1, mr_s]
      obtain ⟨s3, e3, h3, o3⟩ := s_addF (v := 10020) h2 hj
      rw [e3, bi1_s, if_pos isz0, rb_f hr]
      exact ⟨0, s3, rfl, Or.inr ⟨rfl, rfl, h3⟩, o1.tr (o2.tr o3)⟩
  rw [if_neg (fun z => c3 ((nI_eq (by omega) (by omega)).mp z)), if_neg c3]
  by_cases c4 : cd (gB b sz) p = 10012
  · have hg := en_gt (b := b) (sz := sz) (p := p) (by omega)
    have hl := en_le (b := b) hp
    rw [if_pos (by rw [c4]), if_pos c4]
    obtain ⟨s1, e1, h1, o1⟩ := s_take h hp hj
    obtain ⟨x, s2, e2, h2, o2⟩ := hF (by omega) (en (gB b sz) p) cs s1 hl (by omega) h1
    have hw := wF (en (gB b sz) p) hl
    rw [e1, bi1_s, nI_1, e2, bi2_s]
    rcases h2 with ⟨hr, rfl, h2⟩ | ⟨hr, rfl, h2⟩
    · have := hw.2 hr
      have hcd2 := cd_lt h.1.1.2 (sF (en (gB b sz) p)).2.1
      rw [if_neg one_ne, h2.2.2.1.1, show (10013 : Int32) = nI 10013 from rfl, rb_t hr]
      by_cases c5 : cd (gB b sz) (sF (en (gB b sz) p)).2.1 = 10013
      · obtain ⟨s3, e3, h3, o3⟩ := s_take h2 hw.1 hj
        rw [if_pos (by rw [c5]), e3, bi1_s, if_pos c5]
        exact ⟨1, s3, rfl, Or.inl ⟨rfl, rfl, h3⟩, o1.tr (o2.tr o3)⟩
      · rw [if_neg (fun z => c5 ((nI_eq (by omega) (by omega)).mp z)), if_neg c5]
        exact ⟨0, s2, rfl, Or.inr ⟨rfl, rfl, h2.fl hw.1 (by rw [List.length_append]; omega)⟩, o1.tr o2⟩
    · rw [if_pos rfl, rb_f hr]
      exact ⟨0, s2, rfl, Or.inr ⟨rfl, rfl, h2⟩, o1.tr o2⟩
  · rw [if_neg (fun z => c4 ((nI_eq (by omega) (by omega)).mp z)), if_neg c4]
    exact bad _ rfl
/-- a loop over what one sign, or one of two, joins -/
theorem sim_loop {b : Nat → Nat} {sz j : Nat} {x1 : Int32} {L : Nat → Int32 → Int32 → HS → Option (Int32 × HS)} {S : HS → Option (Int32 × HS)} {sub : Nat → Rs} {op : Nat → Bool} (hj : 20 ≤ j) (hop : op 10021 = false) (hw : Wf sz sub) (hS : SimX b sz j S sub)
    (hL1 : ∀ n k c σ, k ≤ 160 → c ≤ 10022 → gI σ 14 2 = nI c → L (n + 1) 1 (nI k) σ = if k = 160 then some (1, σ) else if op c = true then bi1 (c_X2_take σ) (fun s11 => bi2 (S s11) (fun r14 s13 => mr (gR s13 14 1) (fun j16 => bi1 (c_X6_add j16 (nI c) s13) (fun s19 => L n r14 (nI (k + 1)) s19)))) else some (1, σ))
    (hL0 : ∀ n k σ, L (n + 1) 0 (nI k) σ = some (0, σ)) : ∀ (F m p : Nat) (c : List Nat) (v : Vf) (cs : List Nat) (σ : HS), m < F → m ≤ 160 → p ≤ sz → cs.length + c.length ≤ p → RdX b sz j p (cs ++ c) σ → ∃ x σ', L F 1 (nI (160 - m)) σ = some (x, σ') ∧ OutX b sz j cs (PLp (gB b sz) sub op m p c v) x σ' ∧ Off (SPx j) σ σ' := by
  intro F
  induction F with
  | zero => intro m p c v cs σ h1; omega
  | succ F ih =>
    intro m p c v cs σ hF hm hp hc h
    have hz := h.1.1.1
    rw [hL1 F (160 - m) (cd (gB b sz) p) σ (by omega) (cd_lt h.1.1.2 p) h.2.2.1.1]
    cases m with
    | zero => rw [if_pos (by omega), PLp]; exact ⟨1, σ, rfl, Or.inl ⟨rfl, rfl, h⟩, Off.rf⟩
    | succ m =>
      rw [if_neg (by omega), PLp]
      by_cases c1 : op (cd (gB b sz) p) = true
      · have hn : cd (gB b sz) p ≠ 10021 := fun z => by rw [z, hop] at c1; cases c1
        have hg := en_gt hn
        have hl := en_le (b := b) hp
        rw [if_pos c1, if_pos c1]
        obtain ⟨s1, e1, h1, o1⟩ := s_take h hp hj
        obtain ⟨x, s2, e2, h2, o2⟩ := hS (en (gB b sz) p) (cs ++ c) s1 hl (by rw [List.length_append]; omega) h1
        have hw2 := hw (en (gB b sz) p) hl
        rw [e1, bi1_s, e2, bi2_s]
        rcases h2 with ⟨hr, rfl, h2⟩ | ⟨hr, rfl, h2⟩
        · have := hw2.2 hr
          rw [h2.2.1, mr_s]
          obtain ⟨s3, e3, h3, o3⟩ := s_add h2 hj (by rw [List.length_append, List.length_append]; omega) (cd (gB b sz) p)
          rw [e3, bi1_s, rb_t hr, show 160 - (m + 1) + 1 = 160 - m by omega]
          obtain ⟨y, s4, e4, h4, o4⟩ := ih m (sub (en (gB b sz) p)).2.1 (c ++ (sub (en (gB b sz) p)).2.2.1 ++ [cd (gB b sz) p]) (fun f => jn (cd (gB b sz) p) (v f) ((sub (en (gB b sz) p)).2.2.2 f)) cs s3 (by omega) (by omega) hw2.1 (by rw [List.length_append, List.length_append, List.length_singleton]; omega) (by rw [← List.append_assoc, ← List.append_assoc]; exact h3)
          exact ⟨y, s4, e4, h4, o1.tr (o2.tr (o3.tr o4))⟩
        · rw [h2.1, mr_s]
          obtain ⟨s3, e3, h3, o3⟩ := s_addF (v := nI (cd (gB b sz) p)) h2 hj
          obtain ⟨F', rfl⟩ : ∃ F', F = F' + 1 := ⟨F - 1, by omega⟩
          rw [e3, bi1_s, hL0, rb_f hr]
          exact ⟨0, s3, rfl, Or.inr ⟨rfl, rfl, h3⟩, o1.tr (o2.tr o3)⟩
      · rw [if_neg c1, if_neg c1]; exact ⟨1, σ, rfl, Or.inl ⟨rfl, rfl, h⟩, Off.rf⟩
theorem sim_bn {b : Nat → Nat} {sz j : Nat} {L : Nat → Int32 → Int32 → HS → Option (Int32 × HS)} {S : HS → Option (Int32 × HS)} {sub : Nat → Rs} {op : Nat → Bool} (hj : 20 ≤ j) (hop : op 10021 = false) (hw : Wf sz sub) (hS : SimX b sz j S sub)
    (hL1 : ∀ n k c σ, k ≤ 160 → c ≤ 10022 → gI σ 14 2 = nI c → L (n + 1) 1 (nI k) σ = if k = 160 then some (1, σ) else if op c = true then bi1 (c_X2_take σ) (fun s11 => bi2 (S s11) (fun r14 s13 => mr (gR s13 14 1) (fun j16 => bi1 (c_X6_add j16 (nI c) s13) (fun s19 => L n r14 (nI (k + 1)) s19)))) else some (1, σ))
    (hL0 : ∀ n k σ, L (n + 1) 0 (nI k) σ = some (0, σ)) : SimX b sz j (fun σ => bi2 (S σ) (fun r3 s2 => L FU r3 (nI 0) s2)) (PBn (gB b sz) sub op) := by
  intro p cs σ hp hc h
  obtain ⟨x, s1, e1, h1, o1⟩ := hS p cs σ hp hc h
  have hw2 := hw p hp
  show ∃ x σ', bi2 (S σ) (fun r3 s2 => L FU r3 (nI 0) s2) = some (x, σ') ∧ _
  rw [e1, bi2_s, PBn]
  rcases h1 with ⟨hr, rfl, h1⟩ | ⟨hr, rfl, h1⟩
  · have := hw2.2 hr
    rw [rb_t hr]
    obtain ⟨y, s4, e4, h4, o4⟩ := sim_loop (x1 := 0) hj hop hw hS hL1 hL0 FU 160 (sub p).2.1 (sub p).2.2.1 (sub p).2.2.2 cs s1 (by rw [FU]; omega) (by omega) hw2.1 (by omega) h1
    exact ⟨y, s4, e4, h4, o1.tr o4⟩
  · rw [rb_f hr]
    have e0 : L FU 0 (nI 0) s1 = some (0, s1) := hL0 5999 0 s1
    exact ⟨0, s1, e0, Or.inr ⟨rfl, rfl, h1⟩, o1⟩
theorem eq_n {c d : Nat} (h : c ≤ 10022) (hd : d ≤ 10022) : (nI c = nI d) ↔ c = d := nI_eq (by omega) (by omega)
theorem le160 {k : Nat} (h : k ≤ 160) : ((160 : Int32) ≤ nI k) ↔ k = 160 := by
  rw [show (160 : Int32) = nI 160 from rfl, nI_leI (by omega) (by omega)]; omega
theorem l1_T {kF kN kO : Int32 → HS → Option (Int32 × HS)} {o : Int32} (n k c : Nat) (σ : HS) (hk : k ≤ 160) (hc : c ≤ 10022) (h : gI σ 14 2 = nI c) : c_X2_readTerm_8 kF kN kO (n + 1) o 1 (nI k) σ = if k = 160 then some (1, σ) else if oT c = true then bi1 (c_X2_take σ) (fun s11 => bi2 (c_X2_readOne kF kN kO o s11) (fun r14 s13 => mr (gR s13 14 1) (fun j16 => bi1 (c_X6_add j16 (nI c) s13) (fun s19 => c_X2_readTerm_8 kF kN kO n o r14 (nI (k + 1)) s19)))) else some (1, σ) := by
  rw [c_X2_readTerm_8, h]
  by_cases c1 : k = 160
  · rw [if_pos ((le160 hk).mpr c1), if_pos c1, if_pos isz1]
  rw [if_neg (fun z => c1 ((le160 hk).mp z)), if_neg c1, if_neg one_ne, nI_1, show (10017 : Int32) = nI 10017 from rfl, oT]
  by_cases c2 : c = 10017
  · rw [if_pos ((eq_n hc (by omega)).mpr c2), if_pos (decide_eq_true c2), c2]
  · rw [if_neg (fun z => c2 ((eq_n hc (by omega)).mp z)), if_pos isz1, if_neg (by rw [decide_eq_false c2]; decide)]
theorem l0_T {kF kN kO : Int32 → HS → Option (Int32 × HS)} {o : Int32} (n k : Nat) (σ : HS) : c_X2_readTerm_8 kF kN kO (n + 1) o 0 (nI k) σ = some (0, σ) := by
  rw [c_X2_readTerm_8, if_pos isz0, if_pos rfl]
  by_cases c : (160 : Int32) ≤ nI k
  · rw [if_pos c]
  · rw [if_neg c]
theorem l1_S {kF kN kO : Int32 → HS → Option (Int32 × HS)} {o : Int32} (n k c : Nat) (σ : HS) (hk : k ≤ 160) (hc : c ≤ 10022) (h : gI σ 14 2 = nI c) : c_X2_readSum_8 kF kN kO (n + 1) o 1 (nI k) σ = if k = 160 then some (1, σ) else if oS c = true then bi1 (c_X2_take σ) (fun s11 => bi2 (c_X2_readTerm kF kN kO o s11) (fun r14 s13 => mr (gR s13 14 1) (fun j16 => bi1 (c_X6_add j16 (nI c) s13) (fun s19 => c_X2_readSum_8 kF kN kO n o r14 (nI (k + 1)) s19)))) else some (1, σ) := by
  rw [c_X2_readSum_8, h]
  by_cases c1 : k = 160
  · rw [if_pos ((le160 hk).mpr c1), if_pos c1, if_pos isz1]
  rw [if_neg (fun z => c1 ((le160 hk).mp z)), if_neg c1, if_neg one_ne, show (10015 : Int32) = nI 10015 from rfl, show (10016 : Int32) = nI 10016 from rfl, oS]
  by_cases c2 : c = 10015
  · rw [if_pos ((eq_n hc (by omega)).mpr c2), if_pos (by rw [decide_eq_true c2]; rfl), c_X2_readSum_39, nI_1, h]
  rw [if_neg (fun z => c2 ((eq_n hc (by omega)).mp z))]
  by_cases c3 : c = 10016
  · rw [if_pos ((eq_n hc (by omega)).mpr c3), if_pos (by rw [decide_eq_true c3, Bool.or_true]), c_X2_readSum_39, nI_1, h]
  · rw [if_neg (fun z => c3 ((eq_n hc (by omega)).mp z)), if_pos isz1, if_neg (by rw [decide_eq_false c2, decide_eq_false c3]; decide)]
theorem l0_S {kF kN kO : Int32 → HS → Option (Int32 × HS)} {o : Int32} (n k : Nat) (σ : HS) : c_X2_readSum_8 kF kN kO (n + 1) o 0 (nI k) σ = some (0, σ) := by
  rw [c_X2_readSum_8, if_pos isz0, if_pos rfl]
  by_cases c : (160 : Int32) ≤ nI k
  · rw [if_pos c]
  · rw [if_neg c]
theorem l1_A {kF kN kO : Int32 → HS → Option (Int32 × HS)} {o : Int32} (n k c : Nat) (σ : HS) (hk : k ≤ 160) (hc : c ≤ 10022) (h : gI σ 14 2 = nI c) : c_X2_readAnd_8 kF kN kO (n + 1) o 1 (nI k) σ = if k = 160 then some (1, σ) else if oA c = true then bi1 (c_X2_take σ) (fun s11 => bi2 (c_X2_readNot kF kN kO o s11) (fun r14 s13 => mr (gR s13 14 1) (fun j16 => bi1 (c_X6_add j16 (nI c) s13) (fun s19 => c_X2_readAnd_8 kF kN kO n o r14 (nI (k + 1)) s19)))) else some (1, σ) := by
  rw [c_X2_readAnd_8, h]
  by_cases c1 : k = 160
  · rw [if_pos ((le160 hk).mpr c1), if_pos c1, if_pos isz1]
  rw [if_neg (fun z => c1 ((le160 hk).mp z)), if_neg c1, if_neg one_ne, nI_1, show (10010 : Int32) = nI 10010 from rfl, oA]
  by_cases c2 : c = 10010
  · rw [if_pos ((eq_n hc (by omega)).mpr c2), if_pos (decide_eq_true c2), c2]
  · rw [if_neg (fun z => c2 ((eq_n hc (by omega)).mp z)), if_pos isz1, if_neg (by rw [decide_eq_false c2]; decide)]
theorem l0_A {kF kN kO : Int32 → HS → Option (Int32 × HS)} {o : Int32} (n k : Nat) (σ : HS) : c_X2_readAnd_8 kF kN kO (n + 1) o 0 (nI k) σ = some (0, σ) := by
  rw [c_X2_readAnd_8, if_pos isz0, if_pos rfl]
  by_cases c : (160 : Int32) ≤ nI k
  · rw [if_pos c]
  · rw [if_neg c]
theorem l1_O {kF kN kO : Int32 → HS → Option (Int32 × HS)} {o : Int32} (n k c : Nat) (σ : HS) (hk : k ≤ 160) (hc : c ≤ 10022) (h : gI σ 14 2 = nI c) : c_X2_readFormula_8 kF kN kO (n + 1) o 1 (nI k) σ = if k = 160 then some (1, σ) else if oO c = true then bi1 (c_X2_take σ) (fun s11 => bi2 (c_X2_readAnd kF kN kO o s11) (fun r14 s13 => mr (gR s13 14 1) (fun j16 => bi1 (c_X6_add j16 (nI c) s13) (fun s19 => c_X2_readFormula_8 kF kN kO n o r14 (nI (k + 1)) s19)))) else some (1, σ) := by
  rw [c_X2_readFormula_8, h]
  by_cases c1 : k = 160
  · rw [if_pos ((le160 hk).mpr c1), if_pos c1, if_pos isz1]
  rw [if_neg (fun z => c1 ((le160 hk).mp z)), if_neg c1, if_neg one_ne, nI_1, show (10009 : Int32) = nI 10009 from rfl, oO]
  by_cases c2 : c = 10009
  · rw [if_pos ((eq_n hc (by omega)).mpr c2), if_pos (decide_eq_true c2), c2]
  · rw [if_neg (fun z => c2 ((eq_n hc (by omega)).mp z)), if_pos isz1, if_neg (by rw [decide_eq_false c2]; decide)]
theorem l0_O {kF kN kO : Int32 → HS → Option (Int32 × HS)} {o : Int32} (n k : Nat) (σ : HS) : c_X2_readFormula_8 kF kN kO (n + 1) o 0 (nI k) σ = some (0, σ) := by
  rw [c_X2_readFormula_8, if_pos isz0, if_pos rfl]
  by_cases c : (160 : Int32) ≤ nI k
  · rw [if_pos c]
  · rw [if_neg c]
theorem sim_cmp {b : Nat → Nat} {sz j : Nat} {kF kN kO : Int32 → HS → Option (Int32 × HS)} {o : Int32} {sub : Nat → Rs} (hj : 20 ≤ j) (hw : Wf sz sub) (hS : SimX b sz j (c_X2_readSum kF kN kO o) sub) : SimX b sz j (c_X2_readComparison kF kN kO o) (PC (gB b sz) sub) := by
  intro p cs σ hp hc h
  have hz := h.1.1.1
  obtain ⟨x, s1, e1, h1, o1⟩ := hS p cs σ hp hc h
  have hw1 := hw p hp
  rw [c_X2_readComparison, e1, bi2_s, PC]
  rcases h1 with ⟨hr, rfl, h1⟩ | ⟨hr, rfl, h1⟩
  · have hl1 := hw1.2 hr
    have hcd := cd_lt h.1.1.2 (sub p).2.1
    rw [rb_t hr, if_neg one_ne, h1.2.2.1.1, show (10018 : Int32) = nI 10018 from rfl, show (10019 : Int32) = nI 10019 from rfl, if_pos isz1]
    have go : oC (cd (gB b sz) (sub p).2.1) = true → ∃ x σ', c_X2_readComparison_30 kF kN kO o s1 = some (x, σ') ∧ OutX b sz j cs (rb (sub (en (gB b sz) (sub p).2.1)) (fun q' c' v' => (true, q', (sub p).2.2.1 ++ c' ++ [cd (gB b sz) (sub p).2.1], fun f => jn (cd (gB b sz) (sub p).2.1) ((sub p).2.2.2 f) (v' f)))) x σ' ∧ Off (SPx j) σ σ' := by
      intro hc1
      have hg := en_gt (b := b) (sz := sz) (p := (sub p).2.1) (fun z => by rw [z] at hc1; cases hc1)
      have hl := en_le (b := b) hw1.1
      obtain ⟨s2, e2, h2, o2⟩ := s_take h1 hw1.1 hj
      obtain ⟨y, s3, e3, h3, o3⟩ := hS (en (gB b sz) (sub p).2.1) (cs ++ (sub p).2.2.1) s2 hl (by rw [List.length_append]; omega) h2
      have hw2 := hw (en (gB b sz) (sub p).2.1) hl
      rw [c_X2_readComparison_30, e2, bi1_s, e3, bi2_s, h1.2.2.1.1]
      rcases h3 with ⟨hr2, rfl, h3⟩ | ⟨hr2, rfl, h3⟩
      · have := hw2.2 hr2
        obtain ⟨s4, e4, h4, o4⟩ := s_add h3 hj (by rw [List.length_append, List.length_append]; omega) (cd (gB b sz) (sub p).2.1)
        rw [h3.2.1, mr_s, e4, bi1_s, if_pos isz1, rb_t hr2]
        exact ⟨1, s4, rfl, Or.inl ⟨rfl, rfl, by rw [← List.append_assoc, ← List.append_assoc]; exact h4⟩, o1.tr (o2.tr (o3.tr o4))⟩
      · obtain ⟨s4, e4, h4, o4⟩ := s_addF (v := nI (cd (gB b sz) (sub p).2.1)) h3 hj
        rw [h3.1, mr_s, e4, bi1_s, if_pos isz0, rb_f hr2]
        exact ⟨0, s4, rfl, Or.inr ⟨rfl, rfl, h4⟩, o1.tr (o2.tr (o3.tr o4))⟩
    by_cases c1 : cd (gB b sz) (sub p).2.1 = 10018
    · have hc1 : oC (cd (gB b sz) (sub p).2.1) = true := by rw [oC, decide_eq_true c1]; rfl
      rw [if_pos ((eq_n hcd (by omega)).mpr c1), if_pos hc1]
      exact go hc1
    rw [if_neg (fun z => c1 ((eq_n hcd (by omega)).mp z))]
    by_cases c2 : cd (gB b sz) (sub p).2.1 = 10019
    · have hc1 : oC (cd (gB b sz) (sub p).2.1) = true := by rw [oC, decide_eq_true c2, Bool.or_true]
      rw [if_pos ((eq_n hcd (by omega)).mpr c2), if_pos hc1]
      exact go hc1
    · rw [if_neg (fun z => c2 ((eq_n hcd (by omega)).mp z)), if_neg (by rw [oC, decide_eq_false c1, decide_eq_false c2]; decide)]
      exact ⟨1, s1, rfl, Or.inl ⟨rfl, rfl, h1⟩, o1⟩
  · rw [rb_f hr, if_pos rfl, if_pos isz0]
    exact ⟨0, s1, rfl, Or.inr ⟨rfl, rfl, h1⟩, o1⟩
theorem sim_not {b : Nat → Nat} {sz j o : Nat} {kF kN kO : Int32 → HS → Option (Int32 × HS)} {sN sub : Nat → Rs} {dp : Bool} (hj : 20 ≤ j) (ho : o ≤ 5) (hd : dp = true ↔ o = 5) (wN : Wf sz sN) (hw : Wf sz sub) (hN : o < 5 → SimX b sz j (kN (nI (o + 1))) sN) (hS : SimX b sz j (c_X2_readSum kF kN kO (nI o)) sub) : SimX b sz j (c_X2_readNot kF kN kO (nI o)) (PN (gB b sz) sN sub dp) := by
  intro p cs σ hp hc h
  have hz := h.1.1.1
  have hcd := cd_lt h.1.1.2 p
  rw [c_X2_readNot, PN, h.2.2.1.1, show (10011 : Int32) = nI 10011 from rfl, show (5 : Int32) = nI 5 from rfl]
  by_cases c1 : cd (gB b sz) p = 10011
  · have hg := en_gt (b := b) (sz := sz) (p := p) (by omega)
    have hl := en_le (b := b) hp
    rw [if_pos ((eq_n hcd (by omega)).mpr c1), if_pos c1]
    by_cases c2 : o = 5
    · rw [if_neg (by rw [nI_ltI (by omega) (by omega)]; omega), if_pos (hd.mpr c2)]
      exact ⟨0, σ, rfl, Or.inr ⟨rfl, rfl, h.fl hp hc⟩, Off.rf⟩
    rw [if_pos (by rw [nI_ltI (by omega) (by omega)]; omega), if_neg (fun z => c2 (hd.mp z))]
    obtain ⟨s1, e1, h1, o1⟩ := s_take h hp hj
    obtain ⟨x, s2, e2, h2, o2⟩ := hN (by omega) (en (gB b sz) p) cs s1 hl (by omega) h1
    have hw2 := wN (en (gB b sz) p) hl
    rw [e1, bi1_s, nI_1, e2, bi2_s]
    rcases h2 with ⟨hr, rfl, h2⟩ | ⟨hr, rfl, h2⟩
    · have := hw2.2 hr
      obtain ⟨s3, e3, h3, o3⟩ := s_add h2 hj (by rw [List.length_append]; omega) 10011
      rw [h2.2.1, mr_s, e3, bi1_s, if_pos isz1, rb_t hr]
      exact ⟨1, s3, rfl, Or.inl ⟨rfl, rfl, by rw [← List.append_assoc]; exact h3⟩, o1.tr (o2.tr o3)⟩
    · obtain ⟨s3, e3, h3, o3⟩ := s_addF (v := nI 10011) h2 hj
      rw [h2.1, mr_s, e3, bi1_s, if_pos isz0, rb_f hr]
      exact ⟨0, s3, rfl, Or.inr ⟨rfl, rfl, h3⟩, o1.tr (o2.tr o3)⟩
  · rw [if_neg (fun z => c1 ((eq_n hcd (by omega)).mp z)), if_neg c1]
    obtain ⟨x, s1, e1, h1, o1⟩ := sim_cmp hj hw hS p cs σ hp hc h
    rw [e1, bi2_s]
    have hx : isz x = true := by
      rcases h1 with ⟨_, rfl, _⟩ | ⟨_, rfl, _⟩
      · exact isz1
      · exact isz0
    rw [if_pos hx]
    exact ⟨x, s1, rfl, h1, o1⟩
/-- one level of brackets, over the next -/
theorem sim_lev {b : Nat → Nat} {sz j o : Nat} {kF kN kO : Int32 → HS → Option (Int32 × HS)} {sF sN sO : Nat → Rs} {dp : Bool} (hj : 20 ≤ j) (ho : o ≤ 5) (hd : dp = true ↔ o = 5) (wF : Wf sz sF) (wN : Wf sz sN) (wO : Wf sz sO) (hF : o < 5 → SimX b sz j (kF (nI (o + 1))) sF) (hN : o < 5 → SimX b sz j (kN (nI (o + 1))) sN) (hO : o < 5 → SimX b sz j (kO (nI (o + 1))) sO) :
    SimX b sz j (c_X2_readFormula kF kN kO (nI o)) (PFm (gB b sz) sF sN sO dp) ∧ SimX b sz j (c_X2_readNot kF kN kO (nI o)) (PNt (gB b sz) sF sN sO dp) ∧ SimX b sz j (c_X2_readOne kF kN kO (nI o)) (P1 (gB b sz) sF sO dp) := by
  have h1 := sim_one (kN := kN) hj ho hd wF wO hF hO
  have w1 : Wf sz (P1 (gB b sz) sF sO dp) := P1_wf wF wO
  have h2 : SimX b sz j (c_X2_readTerm kF kN kO (nI o)) (PBn (gB b sz) (P1 (gB b sz) sF sO dp) oT) := sim_bn (L := fun n => c_X2_readTerm_8 kF kN kO n (nI o)) hj rfl w1 h1 l1_T l0_T
  have w2 : Wf sz (PBn (gB b sz) (P1 (gB b sz) sF sO dp) oT) := PBn_wf rfl w1
  have h3 : SimX b sz j (c_X2_readSum kF kN kO (nI o)) (PSm (gB b sz) sF sO dp) := sim_bn (L := fun n => c_X2_readSum_8 kF kN kO n (nI o)) hj rfl w2 h2 l1_S l0_S
  have w3 : Wf sz (PSm (gB b sz) sF sO dp) := PSm_wf wF wO
  have h4 : SimX b sz j (c_X2_readNot kF kN kO (nI o)) (PNt (gB b sz) sF sN sO dp) := sim_not hj ho hd wN w3 hN h3
  have w4 : Wf sz (PNt (gB b sz) sF sN sO dp) := PNt_wf wF wN wO
  have h5 : SimX b sz j (c_X2_readAnd kF kN kO (nI o)) (PBn (gB b sz) (PNt (gB b sz) sF sN sO dp) oA) := sim_bn (L := fun n => c_X2_readAnd_8 kF kN kO n (nI o)) hj rfl w4 h4 l1_A l0_A
  have h6 : SimX b sz j (c_X2_readFormula kF kN kO (nI o)) (PFm (gB b sz) sF sN sO dp) := sim_bn (L := fun n => c_X2_readFormula_8 kF kN kO n (nI o)) hj rfl (PBn_wf rfl w4) h5 l1_O l0_O
  exact ⟨h6, h4, h1⟩
theorem sim_all {b : Nat → Nat} {sz j : Nat} (hj : 20 ≤ j) : ∀ d, d ≤ 5 → ∀ e, d ≤ e → SimX b sz j ((rdX (e + 1)).1 (nI (5 - d))) (pz (gB b sz) d).1 ∧ SimX b sz j ((rdX (e + 1)).2.1 (nI (5 - d))) (pz (gB b sz) d).2.1 ∧ SimX b sz j ((rdX (e + 1)).2.2 (nI (5 - d))) (pz (gB b sz) d).2.2 := by
  intro d
  induction d with
  | zero => intro _ e _; exact sim_lev hj (by omega) ⟨fun _ => rfl, fun _ => rfl⟩ nok_Wf nok_Wf nok_Wf (fun z => by omega) (fun z => by omega) (fun z => by omega)
  | succ d ih =>
    intro hd e he
    obtain ⟨e', rfl⟩ : ∃ e', e = e' + 1 := ⟨e - 1, by omega⟩
    have h := ih (by omega) e' (by omega)
    rw [show 5 - d = 5 - (d + 1) + 1 by omega] at h
    have w := pz_wf (b := b) (sz := sz) d
    exact sim_lev hj (by omega) ⟨fun z => (by cases z), fun z => (by omega)⟩ w.1 w.2.1 w.2.2 (fun _ => h.1) (fun _ => h.2.1) (fun _ => h.2.2)
theorem sim_F {b : Nat → Nat} {sz j : Nat} (hj : 20 ≤ j) : SimX b sz j (c_rdF 0) (pz (gB b sz) 5).1 := (sim_all hj 5 (by omega) 6 (by omega)).1
