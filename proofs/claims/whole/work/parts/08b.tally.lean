/-! ALL LAYINGS, tallied by the first -/
abbrev T4 : Type := Nat × Int64 × Int32 × Int32
def upT (h : Int32) (n : Nat) (d : Int32) (x : T4) : T4 := (x.1 + (if h = nI n then 1 else 0), x.2.1 + h.toInt64, if x.2.2.1 = -1 then h else if x.2.2.1 ≤ h then x.2.2.1 else h, if x.2.2.1 = -1 then d else if x.2.2.1 ≤ h then x.2.2.2 else d)
noncomputable def stp (e : Nat → Vf) (q w n lks : Nat) (f : Nat → Int32) (x : T4) : T4 := upT (Hm e q w n lks f) n (dgt f n) x
noncomputable def fin4 (e : Nat → Vf) (q w n lks : Nat) : T4 := all n (stp e q w n lks) (facN n - 1) (fun k => nI k) (0, 0, -1, 0)
def TV (x : T4) (i : Nat) (σ : HS) : Prop := gI σ i 3 = nI x.1 ∧ gJ σ i 6 = x.2.1 ∧ gI σ i 4 = x.2.2.1 ∧ gI σ i 5 = x.2.2.2
theorem stp_alk {e : Nat → Vf} {q w n lks : Nat} (hn : n ≤ 12) (hw : w ≤ 11) : ∀ f g x, VL n f → VJ n f → alk n f g → stp e q w n lks f x = stp e q w n lks g x := by
  intro f g x hf _ ha
  rw [stp, stp, Hm_alk hn hw hf ha, dgt_alk ha n (Nat.le_refl _)]
theorem facJ_N {n : Nat} (h0 : 0 < n) (hn : n ≤ 7) : facJ n = lN (facN n) ∧ facN n ≤ 5040 ∧ 0 < facN n := by
  have : n = 1 ∨ n = 2 ∨ n = 3 ∨ n = 4 ∨ n = 5 ∨ n = 6 ∨ n = 7 := by omega
  rcases this with rfl | rfl | rfl | rfl | rfl | rfl | rfl <;> decide +kernel
theorem sJ_sJ (σ : HS) (i k : Nat) (a c : Int64) : sJ (sJ σ i k a) i k c = sJ σ i k c := by
  refine HS_ext (fun _ _ => rfl) (fun j m => ?_) (fun _ _ => rfl)
  rw [gJ_sJ, gJ_sJ, gJ_sJ]
  by_cases h : j = i ∧ m = k
  · rw [if_pos h, if_pos h]
  · rw [if_neg h, if_neg h, if_neg h]
theorem sJ_at (σ : HS) (i k : Nat) (v : Int64) : gJ (sJ σ i k v) i k = v := by rw [gJ_sJ, if_pos ⟨rfl, rfl⟩]
def Za (i0 i k : Nat) : Prop := i = i0 ∧ 3 ≤ k ∧ k ≤ 6
theorem X_add {i0 i2 n : Nat} {h : Int32} {x : T4} {σ : HS} (hT : TV x i0 σ) (h0 : gI σ i0 0 = nI n) (hs : gI σ i2 1 = nI n) (hn : n ≤ 12) (hi : i0 ≠ i2 ∧ i0 ≠ i2 + 1) : ∃ τ, c_X4_add i0 i2 h σ = some τ ∧ TV (upT h n (dgt (gI σ (i2 + 1)) n) x) i0 τ ∧ Off (Za i0) σ τ := by
  obtain ⟨h3, h6, h4, h5⟩ := hT
  have z3 : Za i0 i0 3 := ⟨rfl, by omega, by omega⟩
  have z4 : Za i0 i0 4 := ⟨rfl, by omega, by omega⟩
  have z5 : Za i0 i0 5 := ⟨rfl, by omega, by omega⟩
  have z6 : Za i0 i0 6 := ⟨rfl, by omega, by omega⟩
  have key : ∀ (υ : HS) (W : Nat), gI υ i0 3 = nI W → gJ υ i0 6 = x.2.1 + h.toInt64 → gI υ i0 4 = x.2.2.1 → gI υ i0 5 = x.2.2.2 → gI υ i2 1 = nI n → gI υ (i2 + 1) = gI σ (i2 + 1) → Off (Za i0) σ υ → ∃ τ, c_X4_add_29 i0 i2 h υ = some τ ∧ TV (W, x.2.1 + h.toInt64, if x.2.2.1 = -1 then h else if x.2.2.1 ≤ h then x.2.2.1 else h, if x.2.2.1 = -1 then dgt (gI σ (i2 + 1)) n else if x.2.2.1 ≤ h then x.2.2.2 else dgt (gI σ (i2 + 1)) n) i0 τ ∧ Off (Za i0) σ τ := by
    intro υ W g3 g6 g4 g5 gs gr o
    have r45 : c_X4_add_45 i0 i2 h υ = some (sI (sI υ i0 4 h) i0 5 (dgt (gI σ (i2 + 1)) n)) := by
      have e := x_digits (i0 := i2) (σ := sI υ i0 4 h) (n := n) (by rw [sI_i (Ne.symm hi.1)]; exact gs) hn
      have er : gI (sI υ i0 4 h) (i2 + 1) = gI σ (i2 + 1) := by rw [← gr]; exact funext fun k => sI_i (Ne.symm hi.2)
      rw [er] at e
      rw [c_X4_add_45, lt_eqq, e, bi2_s, lt_eqq]
    have t45 : TV (W, x.2.1 + h.toInt64, h, dgt (gI σ (i2 + 1)) n) i0 (sI (sI υ i0 4 h) i0 5 (dgt (gI σ (i2 + 1)) n)) := ⟨by rw [sI_k (by omega), sI_k (by omega)]; exact g3, g6, by rw [sI_k (by omega), sI_at], sI_at _ _ _ _⟩
    rw [c_X4_add_29, g4]
    by_cases c : x.2.2.1 = -1
    · rw [if_pos c, if_pos c, if_pos c, r45]
      exact ⟨_, rfl, t45, o.tr ((Off.sI z4).tr (Off.sI z5))⟩
    · rw [if_neg c, if_neg c, if_neg c]
      by_cases c2 : x.2.2.1 ≤ h
      · rw [if_pos c2, if_pos c2, if_pos c2]
        exact ⟨υ, rfl, ⟨g3, g6, g4, g5⟩, o⟩
      · rw [if_neg c2, if_neg c2, if_neg c2, r45]
        exact ⟨_, rfl, t45, o.tr ((Off.sI z4).tr (Off.sI z5))⟩
  rw [c_X4_add, lt_eqq, h6]
  have g0 : gI (sJ σ i0 6 (x.2.1 + h.toInt64)) i0 0 = nI n := h0
  rw [g0, upT]
  by_cases c : h = nI n
  · rw [if_pos c, if_pos c, lt_eqq]
    refine key _ (x.1 + 1) ?_ ?_ ?_ ?_ ?_ ?_ ((Off.sJ z6).tr (Off.sI z3))
    · rw [sI_at, ← nI_1]; exact congrArg (· + 1) h3
    · exact sJ_at _ _ _ _
    · rw [sI_k (by omega)]; exact h4
    · rw [sI_k (by omega)]; exact h5
    · rw [sI_i (Ne.symm hi.1)]; exact hs
    · exact funext fun k => sI_i (Ne.symm hi.2)
  · rw [if_neg c, if_neg c]
    exact key _ x.1 h3 (sJ_at _ _ _ _) h4 h5 hs rfl (Off.sJ z6)
def Zt (t i1 i k : Nat) : Prop := i = 5 ∨ i = 6 ∨ i = 16 ∨ SXt t i k ∨ i = i1 + 1
theorem X_tallyL {n lks t tc i1 q w : Nat} {e : Nat → Vf} (hn7 : n ≤ 7) (ht6 : t < 6) (hi1 : i1 = 9 ∨ 76 ≤ i1) (hq : q ≤ 5) (hw : w ≤ 11) (hN : facN n ≤ 5040) : ∀ (k F m : Nat) (x : T4) (σ : HS), k + 2 ≤ F → m + k + 1 = facN n → CX n lks t tc e 5 σ → Chn n k (gI σ 6) → gI σ i1 0 = nI q → gI σ i1 1 = nI w → gI σ (i1 + 1) 0 = nI n → TV x (i1 + 1) σ → ∃ τ, c_X8_tallyOf_74 F i1 (i1 + 1) (lN (facN n)) (lN m) σ = some (some (i1 + 1), τ) ∧ TV (all n (stp e q w n lks) k (gI σ 6) x) (i1 + 1) τ ∧ Off (Zt t i1) σ τ ∧ (∀ j, j < 3 → gI τ (i1 + 1) j = gI σ (i1 + 1) j) := by
  intro k
  induction k with
  | zero =>
    intro F m x σ hF hm hC hch hk hv h0 hT
    obtain ⟨F, rfl⟩ : ∃ F', F = F' + 1 + 1 := ⟨F - 2, by omega⟩
    obtain ⟨s1, e1, o1, n1⟩ := X_nt hC (Or.inr rfl)
    have C1 := hC.off o1 (fun i k z => by unfold Zn at z; omega)
    have r1 : gI s1 6 = gI σ 6 := o1.row fun k z => by unfold Zn at z; omega
    have p1 : ∀ k, k < 2 → gI s1 i1 k = gI σ i1 k := fun k hk => o1.1 _ _ (by unfold Zn; omega)
    obtain ⟨s2, e2, o2, -, -, n2⟩ := X_gh C1 n1 (Or.inr rfl) hq hw (by rw [p1 0 (by omega)]; exact hk) (by rw [p1 1 (by omega)]; exact hv)
    have o2' : ∀ i k, Zh t i k → i = 16 ∨ (20 ≤ i ∧ i < 44) := fun i k z => by unfold Zh SXt at z; omega
    have r2 : gI s2 6 = gI σ 6 := by rw [← r1]; exact o2.row fun k z => by have := o2' _ _ z; omega
    have p2 : ∀ k, gI s2 (i1 + 1) k = gI σ (i1 + 1) k := fun k => by
      rw [o2.1 _ _ (fun z => by have := o2' _ _ z; omega), o1.1 _ _ (by unfold Zn; omega)]
    have j2 : gJ s2 (i1 + 1) 6 = gJ σ (i1 + 1) 6 := by
      rw [o2.2.1 _ _ (fun z => by have := o2' _ _ z; omega), o1.2.1 _ _ (by unfold Zn; omega)]
    have s21 : gI s2 5 1 = nI n := by rw [o2.1 _ _ (fun z => by have := o2' _ _ z; omega), C1.2.2.1.2.2]
    obtain ⟨s3, e3, T3, o3⟩ := X_add (h := Hm e q w n lks (gI s1 6)) (i0 := i1 + 1) (i2 := 5) (x := x) (σ := s2) ⟨by rw [p2]; exact hT.1, by rw [j2]; exact hT.2.1, by rw [p2]; exact hT.2.2.1, by rw [p2]; exact hT.2.2.2⟩ (by rw [p2]; exact h0) s21 hC.1.2 (by omega)
    have r3 : gI s3 6 = gI σ 6 := by rw [← r2]; exact o3.row fun k z => by unfold Za at z; omega
    have s31 : gI s3 5 1 = nI n := by rw [o3.1 _ _ (by unfold Za; omega)]; exact s21
    have adv := x_adv (i0 := 5) s31 hC.1.2 hC.1.1 (by rw [r3]; exact hC.2.2.2.1)
    rw [show (5 + 1 : Nat) = 6 from rfl, r3, show nxf n (gI σ 6) = none from hch] at adv
    refine ⟨s3, ?_, ?_, ?_, ?_⟩
    · rw [c_X8_tallyOf_74, if_neg (by rw [lg_cmp_ge, lN_le (by omega) (by omega)]; omega), e1, bi1_s, e2, bi2_s, e3, bi1_s, adv, bi1_s, lN_1, c_X8_tallyOf_74, if_pos (by rw [lg_cmp_ge, lN_le (by omega) (by omega)]; omega)]
    · rw [all, stp, ← r1, show gI s1 6 = gI s2 6 by rw [r1, r2]]
      rw [show gI s1 6 = gI s2 6 by rw [r1, r2]] at T3
      exact T3
    · exact (o1.mono fun i k z => by unfold Zn at z; unfold Zt; omega).tr ((o2.mono fun i k z => by unfold Zh at z; unfold Zt; rcases z with z | z; exact Or.inr (Or.inr (Or.inr (Or.inl z))); exact Or.inr (Or.inr (Or.inl z))).tr (o3.mono fun i k z => by unfold Za at z; unfold Zt; omega))
    · intro j hj
      rw [o3.1 _ _ (by unfold Za; omega), p2]
  | succ k ih =>
    intro F m x σ hF hm hC hch hk hv h0 hT
    obtain ⟨F, rfl⟩ : ∃ F', F = F' + 1 := ⟨F - 1, by omega⟩
    obtain ⟨s1, e1, o1, n1⟩ := X_nt hC (Or.inr rfl)
    have C1 := hC.off o1 (fun i k z => by unfold Zn at z; omega)
    have r1 : gI s1 6 = gI σ 6 := o1.row fun k z => by unfold Zn at z; omega
    have p1 : ∀ k, k < 2 → gI s1 i1 k = gI σ i1 k := fun k hk => o1.1 _ _ (by unfold Zn; omega)
    obtain ⟨s2, e2, o2, -, -, n2⟩ := X_gh C1 n1 (Or.inr rfl) hq hw (by rw [p1 0 (by omega)]; exact hk) (by rw [p1 1 (by omega)]; exact hv)
    have o2' : ∀ i k, Zh t i k → i = 16 ∨ (20 ≤ i ∧ i < 44 ∧ (i = 20 + 4 * t ∧ k = 4 ∨ i = 20 + 4 * t + 3)) := fun i k z => by unfold Zh SXt at z; omega
    have C2 := C1.off o2 (fun i k z => by have := o2' _ _ z; omega)
    have r2 : gI s2 6 = gI σ 6 := by rw [← r1]; exact o2.row fun k z => by have := o2' _ _ z; omega
    have p2 : ∀ k, gI s2 (i1 + 1) k = gI σ (i1 + 1) k := fun k => by
      rw [o2.1 _ _ (fun z => by have := o2' _ _ z; omega), o1.1 _ _ (by unfold Zn; omega)]
    have q2 : ∀ k, k < 2 → gI s2 i1 k = gI σ i1 k := fun k hk => by
      rw [o2.1 _ _ (fun z => by have := o2' _ _ z; omega), p1 k hk]
    have j2 : gJ s2 (i1 + 1) 6 = gJ σ (i1 + 1) 6 := by
      rw [o2.2.1 _ _ (fun z => by have := o2' _ _ z; omega), o1.2.1 _ _ (by unfold Zn; omega)]
    have s21 : gI s2 5 1 = nI n := C2.2.2.1.2.2
    obtain ⟨s3, e3, T3, o3⟩ := X_add (h := Hm e q w n lks (gI s1 6)) (i0 := i1 + 1) (i2 := 5) (x := x) (σ := s2) ⟨by rw [p2]; exact hT.1, by rw [j2]; exact hT.2.1, by rw [p2]; exact hT.2.2.1, by rw [p2]; exact hT.2.2.2⟩ (by rw [p2]; exact h0) s21 hC.1.2 (by omega)
    have C3 := C2.off o3 (fun i k z => by unfold Za at z; omega)
    have r3 : gI s3 6 = gI σ 6 := by rw [← r2]; exact o3.row fun k z => by unfold Za at z; omega
    obtain ⟨g, hg, hch'⟩ := hch
    have adv := x_adv (i0 := 5) C3.2.2.1.2.2 hC.1.2 hC.1.1 C3.2.2.2.1
    rw [show (5 + 1 : Nat) = 6 from rfl, r3, hg] at adv
    have kp := nxf_keep hC.1.1 hC.2.2.2.1 hC.2.2.2.2.1 hg
    have g6 : gI (sA s3 6 g) 6 = g := gI_row _ _ _
    have gne : ∀ i, i ≠ 6 → gI (sA s3 6 g) i = gI s3 i := fun i hi => gI_rowne hi
    have C4 : CX n lks t tc e 5 (sA s3 6 g) := by
      obtain ⟨c0, cl, ⟨c1, c2, c3⟩, cf, cj, ct, cr, cc, cR, cE, cEf⟩ := C3
      exact ⟨c0, cl, ⟨by rw [gne 0 (by omega)]; exact c1, by rw [gne 1 (by omega)]; exact c2, by rw [gne 5 (by omega)]; exact c3⟩, by rw [g6]; exact kp.1, by rw [g6]; exact kp.2, ct, by rw [gne 0 (by omega)]; exact cr, by rw [gne 0 (by omega)]; exact cc, cR, by rw [gne _ (by omega), gne _ (by omega)]; exact cE, cEf⟩
    obtain ⟨τ, e4, T4, o4, k4⟩ := ih F (m + 1) (upT (Hm e q w n lks (gI s1 6)) n (dgt (gI s2 6) n) x) (sA s3 6 g) (by omega) (by omega) C4 (by rw [g6]; exact hch') (by rw [gne _ (by omega), o3.1 _ _ (by unfold Za; omega), q2 0 (by omega)]; exact hk) (by rw [gne _ (by omega), o3.1 _ _ (by unfold Za; omega), q2 1 (by omega)]; exact hv) (by rw [gne _ (by omega), o3.1 _ _ (by unfold Za; omega), p2]; exact h0) ⟨by rw [gne _ (by omega)]; exact T3.1, T3.2.1, by rw [gne _ (by omega)]; exact T3.2.2.1, by rw [gne _ (by omega)]; exact T3.2.2.2⟩
    refine ⟨τ, ?_, ?_, ?_, ?_⟩
    · rw [c_X8_tallyOf_74, if_neg (by rw [lg_cmp_ge, lN_le (by omega) (by omega)]; omega), e1, bi1_s, e2, bi2_s, e3, bi1_s, adv, bi1_s, lN_1]
      exact e4
    · rw [all, hg]
      dsimp only
      rw [g6, r1, r2] at T4
      exact T4
    · refine (o1.mono fun i k z => by unfold Zn at z; unfold Zt; omega).tr ((o2.mono fun i k z => by unfold Zh at z; unfold Zt; rcases z with z | z; exact Or.inr (Or.inr (Or.inr (Or.inl z))); exact Or.inr (Or.inr (Or.inl z))).tr ((o3.mono fun i k z => by unfold Za at z; unfold Zt; omega).tr (Off.tr (Off.sA fun k => ?_) o4)))
      exact Or.inr (Or.inl rfl)
    · intro j hj
      rw [k4 j hj, gne _ (by omega), o3.1 _ _ (by unfold Za; omega), p2]
