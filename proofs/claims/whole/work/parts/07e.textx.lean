/-! A WHOLE TEXT by the reader -/
def P0t (g : Nat → Int32) : Rs := PPt g 10006 0
def P1t (g : Nat → Int32) : Rs := PPt g 10007 (P0t g).2.1
def P2t (g : Nat → Int32) : Rs := PPt g 10008 (P1t g).2.1
def Pok (g : Nat → Int32) : Prop := (P0t g).1 = true ∧ (P1t g).1 = true ∧ (P2t g).1 = true ∧ cd g (P2t g).2.1 = 10021
def Pfl (g : Nat → Int32) : Nat := st g (if (P0t g).1 = true then (if (P1t g).1 = true then (P2t g).2.1 else (P1t g).2.1) else (P0t g).2.1)
def Pcs (g : Nat → Int32) : List Nat := (P0t g).2.2.1 ++ (P1t g).2.2.1 ++ (P2t g).2.2.1
def Pvl (g : Nat → Int32) (wh : Nat) : Vf := if wh = 0 then (P0t g).2.2.2 else if wh = 1 then (P1t g).2.2.2 else (P2t g).2.2.2
def SPy (j i k : Nat) : Prop := SPx j i k ∨ i = j + 2
theorem s_part {b : Nat → Nat} {sz j p key pt : Nat} {cs : List Nat} {σ : HS} (hj : 20 ≤ j) (hk : key ≤ 10008) (hpt : pt < 3) (h : RdX b sz j p cs σ) (hp : p ≤ sz) (hc : cs.length ≤ p) : ∃ x σ', c_X2_readPart (nI key) (nI pt) σ = some (x, σ') ∧ (((PPt (gB b sz) key p).1 = true ∧ x = 1 ∧ RdX b sz j (PPt (gB b sz) key p).2.1 (cs ++ (PPt (gB b sz) key p).2.2.1) σ' ∧ gI σ' (j + 2) pt = nI (cs ++ (PPt (gB b sz) key p).2.2.1).length ∧ ∀ k, k ≠ pt → gI σ' (j + 2) k = gI σ (j + 2) k) ∨ ((PPt (gB b sz) key p).1 = false ∧ x = 0 ∧ gI σ' 14 3 = nI (st (gB b sz) (PPt (gB b sz) key p).2.1))) ∧ Off (SPy j) σ σ' := by
  have hz := h.1.1.1
  have hcd := cd_lt h.1.1.2 p
  have mo : ∀ {a c : HS}, Off (SPx j) a c → Off (SPy j) a c := fun o => o.mono fun _ _ z => Or.inl z
  rw [c_X2_readPart, PPt, h.2.2.1.1, show (10014 : Int32) = nI 10014 from rfl]
  by_cases c1 : cd (gB b sz) p = key
  · have hg := en_gt (b := b) (sz := sz) (p := p) (by omega)
    have hl := en_le (b := b) hp
    obtain ⟨s1, e1, h1, o1⟩ := s_take h hp hj
    obtain ⟨x, s2, e2, h2, o2⟩ := sim_F hj (en (gB b sz) p) cs s1 hl (by omega) h1
    have hw := (pz_wf (b := b) 5).1 (en (gB b sz) p) hl
    rw [if_pos (by rw [c1]), if_pos c1, e1, bi1_s, e2, bi2_s]
    have n2 : ∀ k, gI s2 (j + 2) k = gI σ (j + 2) k := fun k => (o1.tr o2).1 _ _ (by intro z; unfold SPx at z; omega)
    rcases h2 with ⟨hr, rfl, h2⟩ | ⟨hr, rfl, h2⟩
    · have := hw.2 hr
      have hcd2 := cd_lt h.1.1.2 ((pz (gB b sz) 5).1 (en (gB b sz) p)).2.1
      rw [if_neg one_ne, h2.2.2.1.1, rb_t hr]
      by_cases c5 : cd (gB b sz) ((pz (gB b sz) 5).1 (en (gB b sz) p)).2.1 = 10014
      · rw [if_pos (by rw [c5]), if_pos c5, h2.2.1, mr_s]
        have ee : c_X6_endPart j (nI pt) s2 = some (sI s2 (j + 2) pt (gI s2 j 1)) := by
          rw [c_X6_endPart, if_neg (nI_pos (by omega)), if_neg (by rw [show (3 : Int32) = nI 3 from rfl, nI_leI (by omega) (by omega)]; omega), if_pos (inb_nI (by omega) (by omega)), ix_nI (by omega)]
          rfl
        have h3 : RdX b sz j ((pz (gB b sz) 5).1 (en (gB b sz) p)).2.1 (cs ++ ((pz (gB b sz) 5).1 (en (gB b sz) p)).2.2.1) (sI s2 (j + 2) pt (gI s2 j 1)) := by
          obtain ⟨⟨ht1, ht2, ht3, ht4⟩, hr, ⟨h2, h3, h4⟩, hc1, hc2⟩ := h2
          refine ⟨⟨ht1, ?_, fun k hk => ?_, ht4⟩, hr, ⟨?_, ?_, ?_⟩, ?_, fun k hk => ?_⟩
          · rw [sI_i (by omega)]; exact ht2
          · rw [sI_i (by omega)]; exact ht3 k hk
          · rw [sI_i (by omega)]; exact h2
          · rw [sI_i (by omega)]; exact h3
          · rw [sI_i (by omega)]; exact h4
          · rw [sI_i (by omega)]; exact hc1
          · rw [sI_i (by omega)]; exact hc2 k hk
        obtain ⟨s4, e4, h4, o4⟩ := s_take h3 hw.1 hj
        have n4 : ∀ k, gI s4 (j + 2) k = gI (sI s2 (j + 2) pt (gI s2 j 1)) (j + 2) k := fun k => o4.1 _ _ (by intro z; unfold SPx at z; omega)
        rw [ee, bi1_s, e4, bi1_s]
        refine ⟨1, s4, rfl, Or.inl ⟨rfl, rfl, h4, ?_, fun k hk => ?_⟩, (mo (o1.tr o2)).tr ((Off.sI (Or.inr rfl)).tr (mo o4))⟩
        · rw [n4, sI_at]; exact h2.2.2.2.1
        · rw [n4, sI_k hk, n2]
      · rw [if_neg (fun z => c5 ((nI_eq (by omega) (by omega)).mp z)), if_neg c5]
        exact ⟨0, s2, rfl, Or.inr ⟨rfl, rfl, h2.2.2.1.2.1⟩, mo (o1.tr o2)⟩
    · rw [if_pos rfl, rb_f hr]
      exact ⟨0, s2, rfl, Or.inr ⟨rfl, rfl, h2.2.1⟩, mo (o1.tr o2)⟩
  · rw [if_neg (fun z => c1 ((nI_eq (by omega) (by omega)).mp z)), if_neg c1]
    exact ⟨0, σ, rfl, Or.inr ⟨rfl, rfl, h.2.2.1.2.1⟩, Off.rf⟩
/-- changes but in the references of the reader -/
def OffR (S : Nat → Nat → Prop) (σ τ : HS) : Prop := (∀ i k, ¬ S i k → gI τ i k = gI σ i k) ∧ (∀ i k, ¬ S i k → gJ τ i k = gJ σ i k) ∧ ∀ i k, i ≠ 14 → gR τ i k = gR σ i k
theorem OffR.of {S : Nat → Nat → Prop} {σ τ υ : HS} (h : OffR S σ τ) (o : Off S τ υ) : OffR S σ υ :=
  ⟨fun i k z => (o.1 i k z).trans (h.1 i k z), fun i k z => (o.2.1 i k z).trans (h.2.1 i k z), fun i k z => (o.2.2 i k).trans (h.2.2 i k z)⟩
theorem x_readText {b : Nat → Nat} {sz j : Nat} {σ : HS} (hB : sz ≤ 160 ∧ ∀ k, k < sz → b k < 256) (hs : gI σ 12 1 = nI sz) (hb : ∀ k, k < sz → gI σ 13 k = nI (b k)) (hj : 20 ≤ j) : ∃ x σ', c_X2_readText 12 j σ = some (x, σ') ∧ ((Pok (gB b sz) ∧ x = -1 ∧ CsX j (Pcs (gB b sz)) σ' ∧ (Pcs (gB b sz)).length ≤ 160 ∧ gI σ' (j + 2) 0 = nI (P0t (gB b sz)).2.2.1.length ∧ gI σ' (j + 2) 1 = nI ((P0t (gB b sz)).2.2.1.length + (P1t (gB b sz)).2.2.1.length) ∧ gI σ' (j + 2) 2 = nI (Pcs (gB b sz)).length) ∨ (¬ Pok (gB b sz) ∧ x = nI (Pfl (gB b sz)))) ∧ OffR (SPy j) σ σ' := by
  obtain ⟨s5, e5⟩ : ∃ z, z = sI (sI (sR (sR σ 14 0 (some 12)) 14 1 (some j)) 14 4 0) j 1 0 := ⟨_, rfl⟩
  have r1 : gR s5 14 1 = some j := by rw [e5]; rfl
  have h5 : TpX b sz s5 := by
    refine ⟨hB, ?_, fun k hk => ?_, by rw [e5]; rfl⟩
    · rw [e5, sI_i (by omega), sI_i (by omega)]; exact hs
    · rw [e5, sI_i (by omega), sI_i (by omega)]; exact hb k hk
  have o5 : OffR (SPy j) σ s5 := by
    rw [e5]
    refine ⟨fun i k c => ?_, fun _ _ _ => rfl, fun i k c => ?_⟩
    · have hn : ¬ (i = j ∧ k = 1) ∧ ¬ (i = 14 ∧ k = 4) := by unfold SPy SPx at c; omega
      rw [gI_sI, if_neg hn.1, gI_sI, if_neg hn.2]; rfl
    · show gR (sR (sR σ 14 0 (some 12)) 14 1 (some j)) i k = _
      rw [gR_sR, if_neg (by omega), gR_sR, if_neg (by omega)]
  have g4 : gI s5 14 4 = nI 0 := by rw [e5, sI_i (by omega), sI_at]; rfl
  have hc5 : CsX j [] s5 := ⟨by rw [e5, sI_at]; rfl, fun k hk => by cases hk⟩
  have mo : ∀ {a c : HS}, Off (SPx j) a c → Off (SPy j) a c := fun o => o.mono fun _ _ z => Or.inl z
  obtain ⟨s6, e6, h6, o6⟩ := s_take0 h5 r1 g4 hc5 (Nat.zero_le _) hj
  have o6 := o5.of (mo o6)
  have hd : c_X2_readText 12 j σ = bi1 (c_X2_take s5) (fun s13 => bi2 (c_X2_readPart (nI 10006) (nI 0) s13) (fun r16 s15 => if r16 = 0 then some (gI s15 14 3, s15) else bi2 (c_X2_readPart (nI 10007) (nI 1) s15) (fun r20 s19 => if r20 = 0 then some (gI s19 14 3, s19) else bi2 (c_X2_readPart (nI 10008) (nI 2) s19) (fun r24 s23 => if r24 = 0 then some (gI s23 14 3, s23) else if gI s23 14 2 = nI 10021 then some (-1, s23) else some (gI s23 14 3, s23))))) := by
    rw [e5]; rfl
  rw [hd, e6, bi1_s]
  have hz := hB.1
  have w0 := PPt_wf (b := b) (sz := sz) (key := 10006) (p := 0) (Nat.zero_le _) (by omega)
  obtain ⟨x0, s7, e7, h7, o7⟩ := s_part (key := 10006) (pt := 0) hj (by omega) (by omega) h6 (Nat.zero_le _) (Nat.le_refl _)
  have o7 := o6.of o7
  rw [e7, bi2_s]
  change (P0t (gB b sz)).2.1 ≤ sz ∧ ((P0t (gB b sz)).1 = true → 0 + (P0t (gB b sz)).2.2.1.length ≤ (P0t (gB b sz)).2.1) at w0
  change ((P0t (gB b sz)).1 = true ∧ x0 = 1 ∧ RdX b sz j (P0t (gB b sz)).2.1 ((P0t (gB b sz)).2.2.1) s7 ∧ gI s7 (j + 2) 0 = nI (P0t (gB b sz)).2.2.1.length ∧ _) ∨ ((P0t (gB b sz)).1 = false ∧ x0 = 0 ∧ gI s7 14 3 = nI (st (gB b sz) (P0t (gB b sz)).2.1)) at h7
  rcases h7 with ⟨q0, rfl, h7, g7, _⟩ | ⟨q0, rfl, h7⟩
  · have l0 := w0.2 q0
    have w1 := PPt_wf (b := b) (sz := sz) (key := 10007) (p := (P0t (gB b sz)).2.1) w0.1 (by omega)
    obtain ⟨x1, s8, e8, h8, o8⟩ := s_part (key := 10007) (pt := 1) hj (by omega) (by omega) h7 w0.1 (by omega)
    have o8 := o7.of o8
    rw [if_neg one_ne, e8, bi2_s]
    change (P1t (gB b sz)).2.1 ≤ sz ∧ ((P1t (gB b sz)).1 = true → (P0t (gB b sz)).2.1 + (P1t (gB b sz)).2.2.1.length ≤ (P1t (gB b sz)).2.1) at w1
    change ((P1t (gB b sz)).1 = true ∧ x1 = 1 ∧ RdX b sz j (P1t (gB b sz)).2.1 ((P0t (gB b sz)).2.2.1 ++ (P1t (gB b sz)).2.2.1) s8 ∧ gI s8 (j + 2) 1 = nI ((P0t (gB b sz)).2.2.1 ++ (P1t (gB b sz)).2.2.1).length ∧ _) ∨ ((P1t (gB b sz)).1 = false ∧ x1 = 0 ∧ gI s8 14 3 = nI (st (gB b sz) (P1t (gB b sz)).2.1)) at h8
    rcases h8 with ⟨q1, rfl, h8, g8, n8⟩ | ⟨q1, rfl, h8⟩
    · have l1 := w1.2 q1
      have w2 := PPt_wf (b := b) (sz := sz) (key := 10008) (p := (P1t (gB b sz)).2.1) w1.1 (by omega)
      obtain ⟨x2, s9, e9, h9, o9⟩ := s_part (key := 10008) (pt := 2) hj (by omega) (by omega) h8 w1.1 (by rw [List.length_append]; omega)
      have o9 := o8.of o9
      rw [if_neg one_ne, e9, bi2_s]
      change (P2t (gB b sz)).2.1 ≤ sz ∧ ((P2t (gB b sz)).1 = true → (P1t (gB b sz)).2.1 + (P2t (gB b sz)).2.2.1.length ≤ (P2t (gB b sz)).2.1) at w2
      change ((P2t (gB b sz)).1 = true ∧ x2 = 1 ∧ RdX b sz j (P2t (gB b sz)).2.1 (Pcs (gB b sz)) s9 ∧ gI s9 (j + 2) 2 = nI (Pcs (gB b sz)).length ∧ _) ∨ ((P2t (gB b sz)).1 = false ∧ x2 = 0 ∧ gI s9 14 3 = nI (st (gB b sz) (P2t (gB b sz)).2.1)) at h9
      rcases h9 with ⟨q2, rfl, h9, g9, n9⟩ | ⟨q2, rfl, h9⟩
      · have l2 := w2.2 q2
        have hcd := cd_lt hB.2 (P2t (gB b sz)).2.1
        rw [if_neg one_ne, h9.2.2.1.1]
        by_cases c : cd (gB b sz) (P2t (gB b sz)).2.1 = 10021
        · rw [if_pos (by rw [c])]
          refine ⟨_, s9, rfl, Or.inl ⟨⟨q0, q1, q2, c⟩, rfl, h9.2.2.2, ?_, ?_, ?_, g9⟩, o9⟩
          · rw [Pcs, List.length_append, List.length_append]; omega
          · rw [n9 0 (by omega), n8 0 (by omega)]; exact g7
          · rw [n9 1 (by omega), g8, List.length_append]
        · rw [if_neg (fun z => c ((nI_eq (by omega) (by omega)).mp z)), h9.2.2.1.2.1]
          exact ⟨_, s9, rfl, Or.inr ⟨fun z => c z.2.2.2, by rw [Pfl, if_pos q0, if_pos q1]⟩, o9⟩
      · rw [if_pos rfl, h9]
        exact ⟨_, s9, rfl, Or.inr ⟨fun z => (by rw [z.2.2.1] at q2; cases q2), by rw [Pfl, if_pos q0, if_pos q1]⟩, o9⟩
    · rw [if_pos rfl, h8]
      exact ⟨_, s8, rfl, Or.inr ⟨fun z => (by rw [z.2.1] at q1; cases q1), by rw [Pfl, if_pos q0, if_neg (by rw [q1]; decide)]⟩, o8⟩
  · rw [if_pos rfl, h7]
    exact ⟨_, s7, rfl, Or.inr ⟨fun z => (by rw [z.1] at q0; cases q0), by rw [Pfl, if_neg (by rw [q0]; decide)]⟩, o7⟩
