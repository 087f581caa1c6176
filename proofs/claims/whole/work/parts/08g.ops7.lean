/-! RUN, BET, DRAWS -/
theorem three_cases (p : Int32) : p < 0 ∨ (¬ p < 0 ∧ 2 < p) ∨ (¬ p < 0 ∧ ¬ 2 < p ∧ (p = 0 ∨ p = 1 ∨ p = 2)) := by
  by_cases c : p < 0
  · exact Or.inl c
  by_cases c2 : 2 < p
  · exact Or.inr (Or.inl ⟨c, c2⟩)
  refine Or.inr (Or.inr ⟨c, c2, ?_⟩)
  obtain ⟨j, hj, rfl⟩ := nI_of c
  rw [show (2 : Int32) = nI 2 from rfl, nI_ltI (by omega) hj] at c2
  have : j = 0 ∨ j = 1 ∨ j = 2 := by omega
  rcases this with rfl | rfl | rfl
  · exact Or.inl nI_0
  · exact Or.inr (Or.inl rfl)
  · exact Or.inr (Or.inr rfl)
theorem SXt_W {t i k : Nat} (ht : t < 6) (z : SXt t i k) : 20 ≤ i ∧ i < 44 ∧ (i % 4 = 0 ∨ i % 4 = 3) := by
  unfold SXt at z
  omega
def Zrun (t i k : Nat) : Prop := Zn 1 i k ∨ Zh t i k
theorem Zrun_W {t i k : Nat} (ht : t < 6) (z : Zrun t i k) : Wa i k ∧ i ≠ 2 ∧ ¬ (i = 1 ∧ k = 1) ∧ ¬ (i = 0 ∧ k = 1) := by
  rcases z with z | z | z
  · unfold Zn at z; unfold Wa; omega
  · have := SXt_W ht z; unfold Wa; omega
  · unfold Wa; omega
theorem Zg_W {i k : Nat} (z : Zg i k) : Wm i k ∧ ¬ (i = 0 ∧ (k = 8 ∨ k = 9)) := by unfold Zg at z; unfold Wm; omega
theorem Rel.t6 {n lks pc tc t : Nat} {ev : Nat → Nat → Vf} {σ υ : HS} (h : Rel n lks pc tc t ev σ υ) : t < 6 := by
  have h1 := h.2.1.2.2.1.1
  have h2 := h.2.1.2.1.1.2
  omega
theorem Op_run {pc : Nat} {σ υ : HS} (p1 p2 : Int32) (h : RelE pc σ υ) : ∃ r σ' υ', c_X8_run p1 p2 σ = some (r, σ') ∧ c_X9_run p1 p2 υ = some (r, υ') ∧ RelE pc σ' υ' := by
  have hh := h
  obtain ⟨n, lks, tc, t, ev, h⟩ := h
  have H := h
  obtain ⟨⟨⟨h0, hn⟩, hl, hf, hj, ⟨hs, hk⟩, hs2, hk2, e⟩, ⟨⟨hc, hp, hp2, hpl⟩, _⟩, _⟩ := h
  have bad : ∀ v : Int32, ∃ r σ' υ', some (v, σ) = some (r, σ') ∧ some (v, υ) = some (r, υ') ∧ RelE pc σ' υ' := fun v => ⟨_, σ, υ, rfl, rfl, hh⟩
  rw [c_X8_run, c_X9_run, m_isPlan hp2 hc, bi2_s]
  rcases x_planAt (p := p1) hp hc (fun k hk3 => (hpl k hk3).1) with ⟨c, e1⟩ | ⟨k, hk3, rfl, e1⟩
  · rw [e1, bi2_s, mo_0, has_no c, if_pos rfl]; exact bad _
  rw [e1, bi2_s, mo_1, has_yes hk3 (by omega), if_neg one_ne, in_02, bi2_s]
  rcases three_cases p2 with c | ⟨c, c2⟩ | ⟨c, c2, c3⟩
  · rw [if_pos c, if_pos c, if_pos rfl]; exact bad _
  · rw [if_neg c, if_neg (fun z => le_iff_nlt.mp z c2), if_neg c, if_pos c2, if_pos rfl]; exact bad _
  obtain ⟨-, q, w, hq, hw, a1, a2, a3, a4⟩ := hpl k hk3
  have ht6 := H.t6
  obtain ⟨s1, e2, o1, N1⟩ := X_nt H.CX (Or.inl rfl)
  have C1 := H.CX.off o1 (fun i k z => by unfold Zn at z; omega)
  have r1 : gI s1 2 = gI σ 2 := o1.row fun k z => by unfold Zn at z; omega
  have p1' : ∀ j, gI s1 (76 + 2 * k) j = gI σ (76 + 2 * k) j := fun j => o1.1 _ _ (by unfold Zn; omega)
  obtain ⟨s2, e3, o2, g0, g2, -⟩ := X_gh C1 N1 (Or.inl rfl) hq hw (by rw [p1']; exact a1) (by rw [p1']; exact a2)
  obtain ⟨s3, e4, o3, g3, g4⟩ := M_gh (q := q) H.CM hw
  have ea : gI s1 (1 + 1) = gI σ 2 := r1
  have eH : Hm (ev t) q w n lks (gI s1 (1 + 1)) = Hm (ev t) q w n lks (gI υ 4) := by rw [ea]; exact Hm_alk hn hw hf e
  have eF : Fc q w n lks (gI s1 (1 + 1)) = Fc q w n lks (gI υ 4) := by rw [ea]; exact Fc_alk hn hw hf e
  rw [eH] at e3
  rw [eF] at g0 g2
  have R : Rel n lks pc tc t ev s2 s3 := H.scr (S := Zrun t) (S' := Zg) ((o1.mono fun i k z => Or.inl z).tr (o2.mono fun i k z => Or.inr z)) o3 (fun i k z => Zrun_W ht6 z) (fun i k z => Zg_W z) (by rw [o3.row (i := 4) (fun k z => by unfold Zg at z; omega)]; exact alk_rf)
  rw [if_neg c, if_pos (le_iff_nlt.mpr c2), if_neg c, if_neg c2, if_neg one_ne, e2, bi1_s, e3, bi2_s, if_pos (inb_nI (by omega) (by omega)), if_pos (inb_nI (by omega) (by omega)), ix_nI (by omega), a3, a4, e4, bi2_s, g3, g4]
  have x0 : ix 0 = 0 := by decide
  have x2 : ix 2 = 2 := by decide
  rcases c3 with rfl | rfl | rfl
  · rw [if_neg (by decide), if_pos rfl, if_pos (by decide), if_pos rfl, x0, g0]; exact ⟨_, s2, s3, rfl, rfl, n, lks, tc, t, ev, R⟩
  · rw [if_neg (by decide), if_neg (by decide), if_pos (by decide), if_neg (by decide), if_pos rfl, x2, g2]; exact ⟨_, s2, s3, rfl, rfl, n, lks, tc, t, ev, R⟩
  · rw [if_pos rfl, if_neg (by decide), if_neg (by decide)]; exact ⟨_, s2, s3, rfl, rfl, n, lks, tc, t, ev, R⟩
theorem Op_bet {pc : Nat} {σ υ : HS} (h : RelE pc σ υ) : ∃ r σ' υ', c_X8_bet σ = some (r, σ') ∧ c_X9_bet υ = some (r, υ') ∧ RelE pc σ' υ' := by
  obtain ⟨n, lks, tc, t, ev, h⟩ := h
  have H := h
  obtain ⟨⟨⟨h0, hn⟩, hl, hf, hj, ⟨hs, hk⟩, hs2, hk2, e⟩, ⟨_, ⟨_, ⟨t1, t2⟩, tR, tT⟩, ⟨r1, r2, r3⟩, _⟩, _⟩ := h
  have ht6 := H.t6
  obtain ⟨s1, e1, o1, N1⟩ := X_nt H.CX (Or.inl rfl)
  obtain ⟨s2, es2⟩ : ∃ z, z = sI (sI s1 16 0 0) 16 2 0 := ⟨_, rfl⟩
  have o2 : Off (Zn 1) σ s2 := by rw [es2]; exact o1.tr ((Off.sI (Or.inr rfl)).tr (Off.sI (Or.inr rfl)))
  have C2 := H.CX.off o2 (fun i k z => by unfold Zn at z; omega)
  obtain ⟨_, _, _, _, _, ⟨ct, ct6⟩, cr, cc, cR, cE, cEf⟩ := C2
  obtain ⟨s3, e3, o3⟩ := x_worth (wh := 2) cE ct ct6 cr cc cR (fun _ _ => rfl) (fun _ _ => rfl) (by omega)
  obtain ⟨u1, eu1⟩ : ∃ z, z = svY n υ n (svR n (gI υ 4) n) := ⟨_, rfl⟩
  have l1 : c_X9_lays υ = some u1 := by rw [eu1]; exact m_lays hs2 hn (hf.alk e) (hj.alk e)
  have o4 : Off Zg υ u1 := by rw [eu1]; exact Off.t3 ⟨rfl, by omega⟩ ⟨rfl, by omega⟩ ⟨rfl, by omega⟩
  have CM1 := H.CM.off o4 (fun i k z => by unfold Zg at z; omega)
  obtain ⟨_, _, ⟨cn, _⟩, _, _, mr4, mE, _⟩ := CM1
  obtain ⟨u2, e5, o5⟩ := mE u1 (fun _ _ _ => rfl) rfl 2 (by omega) 0 0
  have ee : ev t 2 (gI s2 16) = ev t 2 (fct u1 0 0) := by
    refine cEf 2 _ _ fun k hk6 => ?_
    have row1 : gI s1 2 = gI σ 2 := o1.row fun k z => by unfold Zn at z; omega
    obtain ⟨n1, n3, n4, n5⟩ := N1
    rw [show (1 + 1 : Nat) = 2 from rfl, row1] at n3 n4 n5
    have : k = 0 ∨ k = 1 ∨ k = 2 ∨ k = 3 ∨ k = 4 ∨ k = 5 := by omega
    rcases this with rfl | rfl | rfl | rfl | rfl | rfl
    · rw [es2, sI_k (by omega), sI_at]; rfl
    · rw [es2, sI_k (by omega), sI_k (by omega), n1, fct, if_neg (by omega), if_pos rfl, cn]
    · rw [es2, sI_at]; rfl
    · rw [es2, sI_k (by omega), sI_k (by omega), n3, fct, if_neg (by omega), if_neg (by omega), if_neg (by omega), if_pos rfl, eu1, svY, gI_t3, if_pos ⟨rfl, rfl⟩, svM_alk e n (Nat.le_refl _)]
    · rw [es2, sI_k (by omega), sI_k (by omega), n4, fct, if_neg (by omega), if_neg (by omega), if_neg (by omega), if_neg (by omega), if_pos rfl, eu1, svY, gI_t3, if_neg (by omega), if_neg (by omega), if_pos ⟨rfl, rfl⟩, svR_alk hn hf e n (Nat.le_refl _)]
    · rw [es2, sI_k (by omega), sI_k (by omega), n5, fct, if_neg (by omega), if_neg (by omega), if_neg (by omega), if_neg (by omega), if_neg (by omega), eu1, svY, gI_t3, if_neg (by omega), if_pos ⟨rfl, rfl⟩, svL_alk hn hf e n (Nat.le_refl _)]
  have oS : Off (Zrun t) σ s3 := (o2.mono fun i k z => Or.inl z).tr (o3.mono fun i k z => Or.inr (Or.inl z))
  have oM : Off Zg υ u2 := o4.tr (o5.mono fun i k z => by unfold SR at z; unfold Zg; omega)
  refine ⟨ev t 2 (gI s2 16), s3, u2, ?_, ?_, n, lks, tc, t, ev, H.scr oS oM (fun i k z => Zrun_W ht6 z) (fun i k z => Zg_W z) (by rw [oM.row (i := 4) (fun k z => by unfold Zg at z; omega)]; exact alk_rf)⟩
  · have d : c_X8_bet σ = bi1 (c_X8_noteLaying 1 σ) (fun s => bi2 (c_X8_worth (nI 2) (sI (sI s 16 0 0) 16 2 0)) (fun r11 s10 => some (r11, s10))) := rfl
    rw [d, e1, bi1_s, ← es2, e3, bi2_s]
  · rw [c_X9_bet, l1, bi1_s, mr4, show c_X9_read (nI t) 0 0 2 u1 = _ from e5, bi2_s, ee]
/-! draws -/
theorem X_drL {n lks t tc i2 : Nat} {e : Nat → Vf} (hi : i2 = 1 ∨ i2 = 5) : ∀ (F m : Nat) (σ : HS), m ≤ n → n - m < F → CX n lks t tc e i2 σ → Ntd n i2 σ → RFx σ → ∃ τ, c_X8_drawsThatWin_9 F i2 (nI (dcn e n lks (gI σ (i2 + 1)) m)) (nI m) σ = some (nI (dcn e n lks (gI σ (i2 + 1)) n), τ) ∧ Off (Zh t) σ τ := by
  intro F
  induction F with
  | zero => intro m σ h1 h2; omega
  | succ F ih =>
    intro m σ hm hF hC hN hX
    have hn := hC.1.2
    have ht6 : t < 6 := by have := hC.2.2.2.2.2.1; omega
    rw [c_X8_drawsThatWin_9, hC.2.2.1.2.2]
    by_cases c : m = n
    · subst c
      rw [if_pos (by rw [nI_leI (by omega) (by omega)]; omega)]
      exact ⟨σ, rfl, Off.rf⟩
    · obtain ⟨x1, x2, x3⟩ := hX.1 m (by omega)
      obtain ⟨s1, e1, o1, -, -, N1⟩ := X_gh hC hN hi (q := 3) (w := m) (by omega) (by omega) x2 x3
      have o1' : ∀ i k, Zh t i k → i = 16 ∨ (i = 20 + 4 * t ∧ k = 4) ∨ i = 20 + 4 * t + 3 := fun i k z => by unfold Zh SXt at z; omega
      have C1 := hC.off o1 (fun i k z => by have := o1' _ _ z; omega)
      have X1 : RFx s1 := hX.off (o1.mono fun i k z => by have := o1' _ _ z; unfold Wt Wa; omega)
      have row : gI s1 (i2 + 1) = gI σ (i2 + 1) := o1.row fun k z => by have := o1' _ _ z; omega
      obtain ⟨τ, e2, o2⟩ := ih (m + 1) s1 (by omega) (by omega) C1 N1 X1
      rw [row, dcn] at e2
      refine ⟨τ, ?_, o1.tr o2⟩
      rw [if_neg (by rw [nI_leI (by omega) (by omega)]; omega), if_neg (by rw [show (12 : Int32) = nI 12 from rfl, nI_leI (by omega) (by omega)]; omega), if_pos (inb_nI (by omega) (by omega)), ix_nI (by omega), x1, mr_s, e1, bi2_s, C1.2.2.1.2.2, c_X8_drawsThatWin_44, c_X8_drawsThatWin_44, nI_1, nI_1]
      by_cases c2 : Hm e 3 m n lks (gI σ (i2 + 1)) = nI n
      · rw [if_pos c2] at e2 ⊢
        exact e2
      · rw [if_neg c2] at e2 ⊢
        exact e2
theorem X_dr {n lks t tc i2 : Nat} {e : Nat → Vf} {σ : HS} (hi : i2 = 1 ∨ i2 = 5) (hC : CX n lks t tc e i2 σ) (hX : RFx σ) : ∃ τ, c_X8_drawsThatWin i2 σ = some (nI (dcn e n lks (gI σ (i2 + 1)) n), τ) ∧ Off (fun i k => Zn i2 i k ∨ Zh t i k) σ τ := by
  obtain ⟨s1, e1, o1, N1⟩ := X_nt hC hi
  have C1 := hC.off o1 (fun i k z => by unfold Zn at z; omega)
  have X1 : RFx s1 := hX.off (o1.mono fun i k z => by unfold Zn at z; unfold Wt Wa; omega)
  have row : gI s1 (i2 + 1) = gI σ (i2 + 1) := o1.row fun k z => by unfold Zn at z; omega
  obtain ⟨τ, e2, o2⟩ := X_drL hi FU 0 s1 (by omega) (by have := hC.1.2; rw [FU]; omega) C1 N1 X1
  rw [row, dcn] at e2
  refine ⟨τ, ?_, (o1.mono fun i k z => Or.inl z).tr (o2.mono fun i k z => Or.inr z)⟩
  rw [c_X8_drawsThatWin, e1, bi1_s]
  exact e2
theorem M_drL {n lks t : Nat} {e : Nat → Vf} : ∀ (F m : Nat) (υ : HS), m ≤ n → n - m < F → CM n lks t e υ → ∃ τ, c_X9_drawsNow_4 F (nI (dcn e n lks (gI υ 4) m)) (nI m) υ = some (nI (dcn e n lks (gI υ 4) n), τ) ∧ Off Zg υ τ := by
  intro F
  induction F with
  | zero => intro m σ h1 h2; omega
  | succ F ih =>
    intro m υ hm hF hC
    have hn := hC.1.2
    rw [c_X9_drawsNow_4, hC.2.2.1.1]
    by_cases c : m = n
    · subst c
      rw [if_pos (by rw [nI_leI (by omega) (by omega)]; omega)]
      exact ⟨υ, rfl, Off.rf⟩
    · obtain ⟨s1, e1, o1, -, -⟩ := M_gh (q := 3) (w := m) hC (by omega)
      have C1 := hC.off o1 (fun i k z => by unfold Zg at z; omega)
      have row : gI s1 4 = gI υ 4 := o1.row fun k z => by unfold Zg at z; omega
      obtain ⟨τ, e2, o2⟩ := ih (m + 1) s1 (by omega) (by omega) C1
      rw [row, dcn] at e2
      refine ⟨τ, ?_, o1.tr o2⟩
      rw [if_neg (by rw [nI_leI (by omega) (by omega)]; omega), show c_X9_goHome 3 (nI m) υ = _ from e1, bi2_s, C1.2.2.1.1, c_X9_drawsNow_31, c_X9_drawsNow_31, nI_1]
      by_cases c2 : Hm e 3 m n lks (gI υ 4) = nI n
      · rw [if_pos c2] at e2 ⊢
        rw [nI_1]
        exact e2
      · rw [if_neg c2] at e2 ⊢
        rw [Int32.add_zero, nI_1]
        exact e2
theorem M_dr {n lks t : Nat} {e : Nat → Vf} {υ : HS} (hC : CM n lks t e υ) : ∃ τ, c_X9_drawsNow υ = some (nI (dcn e n lks (gI υ 4) n), τ) ∧ Off Zg υ τ := M_drL FU 0 υ (by omega) (by have := hC.1.2; rw [FU]; omega) hC
theorem dcn_le {e : Nat → Vf} {n lks : Nat} {f : Nat → Int32} : ∀ m, dcn e n lks f m ≤ m := by
  intro m
  induction m with
  | zero => exact Nat.le_refl _
  | succ m ih => rw [dcn]; split <;> omega
theorem dcn_alk {e : Nat → Vf} {n lks : Nat} {f g : Nat → Int32} (hn : n ≤ 12) (hf : VL n f) (ha : alk n f g) : ∀ m, m ≤ n → dcn e n lks f m = dcn e n lks g m := by
  intro m
  induction m with
  | zero => intro _; rfl
  | succ m ih => intro hm; rw [dcn, dcn, ih (by omega), Hm_alk hn (by omega) hf ha]
theorem dst_alk {e : Nat → Vf} {n lks : Nat} (hn : n ≤ 12) : ∀ f g x, VL n f → VJ n f → alk n f g → dst e n lks f x = dst e n lks g x := by
  intro f g x hf _ ha
  rw [dst, dst, dcn_alk hn hf ha n (Nat.le_refl _)]
theorem dst_0 {e : Nat → Vf} {n lks : Nat} (hn : n ≤ 12) (f : Nat → Int32) : dst e n lks f 0 = 0 := by
  have := dcn_le (e := e) (n := n) (lks := lks) (f := f) n
  rw [dst, if_neg (by decide), if_pos (by rw [← nI_0, nI_leI (by omega) (by omega)]; omega)]
theorem all_0 {e : Nat → Vf} {n lks : Nat} (hn : n ≤ 12) : ∀ k f, all n (dst e n lks) k f 0 = 0 := by
  intro k
  induction k with
  | zero => intro f; exact dst_0 hn f
  | succ k ih =>
    intro f
    rw [all, dst_0 hn]
    cases nxf n f with
    | none => rfl
    | some g => exact ih g
theorem all_12 {e : Nat → Vf} {n lks : Nat} (hn : n ≤ 7) : ∀ k f, all n (dst e n lks) k f 12 = all n (dst e n lks) k f (-1) := by
  have h : ∀ f, dst e n lks f 12 = dst e n lks f (-1) := by
    intro f
    have := dcn_le (e := e) (n := n) (lks := lks) (f := f) n
    rw [dst, dst, if_neg (by decide), if_pos rfl, if_neg (by rw [show (12 : Int32) = nI 12 from rfl, nI_leI (by omega) (by omega)]; omega)]
  intro k f
  cases k with
  | zero => exact h f
  | succ k => rw [all, all, h]
