/-! LAY -/
theorem x3_at {j sz b : Nat} {σ : HS} (h : gI σ j 2 = nI sz) (hz : sz ≤ 40) (hb : b < sz) : c_X3_at j (nI b) σ = some (gI σ (j + 1) b, σ) := by
  rw [c_X3_at, x_hasS h, bi2_s, has_yes' hb (by omega), if_neg one_ne, if_pos (inb_nI (by omega) (by omega)), ix_nI (by omega)]
def hlF (n : Nat) (f : Nat → Int32) : Nat → Nat → Int32 → Bool
  | 0, _, _ => true
  | m + 1, b, s => if f b < -1 then false else if f b < nI n then (if f b = -1 then hlF n f m (b + 1) s else if ((s >>> (f b &&& 31)) &&& 1) = 1 then false else hlF n f m (b + 1) (s ||| ((1 : Int32) <<< (f b &&& 31)))) else false
def cN (f : Nat → Int32) : Nat → Nat
  | 0 => 0
  | b + 1 => cN f b + if f b = -1 then 0 else 1
theorem cN_le {f : Nat → Int32} : ∀ b, cN f b ≤ b := by
  intro b
  induction b with
  | zero => exact Nat.le_refl _
  | succ b ih => rw [cN]; split <;> omega
theorem x_holdL {j n : Nat} {σ : HS} (h : gI σ j 2 = nI n) (hn : n ≤ 12) : ∀ (F m b : Nat) (s : Int32), m < F → b + m = n → c_X8_holdsLaying_4 F j s (nI b) σ = some (tf (hlF n (gI σ (j + 1)) m b s), σ) := by
  intro F
  induction F with
  | zero => intro m b s h; omega
  | succ F ih =>
    intro m b s hF hb
    rw [c_X8_holdsLaying_4, h]
    cases m with
    | zero => rw [if_pos (by rw [nI_leI (by omega) (by omega)]; omega), hlF]; rfl
    | succ m =>
      rw [if_neg (by rw [nI_leI (by omega) (by omega)]; omega), x3_at h (by omega) (by omega), bi2_s, hlF, h]
      by_cases c1 : gI σ (j + 1) b < -1
      · rw [if_pos c1, if_pos c1]; rfl
      rw [if_neg c1, if_neg c1]
      by_cases c2 : gI σ (j + 1) b < nI n
      · rw [if_pos c2, if_pos c2]
        by_cases c3 : gI σ (j + 1) b = -1
        · rw [if_pos c3, if_pos c3, c_X8_holdsLaying_55, nI_1]; exact ih m (b + 1) s (by omega) (by omega)
        rw [if_neg c3, if_neg c3]
        by_cases c4 : ((s >>> (gI σ (j + 1) b &&& 31)) &&& 1) = 1
        · rw [if_pos c4, if_pos c4]; rfl
        · rw [if_neg c4, if_neg c4, c_X8_holdsLaying_55, nI_1]; exact ih m (b + 1) _ (by omega) (by omega)
      · rw [if_neg c2, if_neg c2]; rfl
theorem hl_ok {n : Nat} {f : Nat → Int32} (hn : n ≤ 12) : ∀ (m b : Nat) (s : Int32), b + m = n → (∀ v, v < n → (bt s v = true ↔ ∃ a, a < b ∧ f a = nI v)) → (∀ a, a < b → vl n (f a)) → (∀ a c, a < b → c < b → f a = f c → f a ≠ -1 → a = c) → hlF n f m b s = true → VL n f ∧ VJ n f := by
  intro m
  induction m with
  | zero =>
    intro b s hb _ h1 h2 _
    have : b = n := by omega
    subst this
    exact ⟨h1, h2⟩
  | succ m ih =>
    intro b s hb hs h1 h2 h
    rw [hlF] at h
    by_cases c1 : f b < -1
    · rw [if_pos c1] at h; cases h
    rw [if_neg c1] at h
    by_cases c2 : f b < nI n
    · rw [if_pos c2] at h
      by_cases c3 : f b = -1
      · rw [if_pos c3] at h
        refine ih (b + 1) s (by omega) (fun v hv => ?_) (fun a ha => ?_) (fun a c ha hc e ne => ?_) h
        · rw [hs v hv]
          constructor
          · rintro ⟨a, ha, e⟩; exact ⟨a, by omega, e⟩
          · rintro ⟨a, ha, e⟩
            by_cases q : a = b
            · rw [q, c3] at e; exact absurd e.symm (nI_neg (by omega))
            · exact ⟨a, by omega, e⟩
        · by_cases q : a = b
          · rw [q]; exact Or.inl c3
          · exact h1 a (by omega)
        · by_cases q : a = b
          · rw [q] at ne; exact absurd c3 ne
          · by_cases q2 : c = b
            · rw [q2, c3] at e; exact absurd e ne
            · exact h2 a c (by omega) (by omega) e ne
      · rw [if_neg c3] at h
        obtain ⟨v, hv, ev⟩ : ∃ v, v < n ∧ f b = nI v := by
          rcases box_cases (f b) n (by omega) with z | z | z
          · exfalso
            apply c3
            apply Int32.toInt_inj.mp
            rw [Int32.lt_iff_toInt_lt, show (-1 : Int32).toInt = -1 by decide] at c1
            rw [Int32.lt_iff_toInt_lt, show (0 : Int32).toInt = 0 by decide] at z
            rw [show (-1 : Int32).toInt = -1 by decide]
            omega
          · exact absurd c2 (le_iff_nlt.mp z.2)
          · exact z
        rw [ev] at h
        by_cases c4 : ((s >>> (nI v &&& 31)) &&& 1) = 1
        · rw [if_pos c4] at h; cases h
        rw [if_neg c4] at h
        have nb : ¬ ∃ a, a < b ∧ f a = nI v := fun z => c4 ((bit1 (by omega)).mpr ((hs v hv).mpr z))
        refine ih (b + 1) _ (by omega) (fun w hw => ?_) (fun a ha => ?_) (fun a c ha hc e ne => ?_) h
        · rw [bit_or (by omega) (by omega), Bool.or_eq_true, hs w hw, decide_eq_true_eq]
          constructor
          · rintro (⟨a, ha, e⟩ | rfl)
            · exact ⟨a, by omega, e⟩
            · exact ⟨b, by omega, ev⟩
          · rintro ⟨a, ha, e⟩
            by_cases q : a = b
            · rw [q, ev] at e
              exact Or.inr (nI_inj (by omega) (by omega) e.symm)
            · exact Or.inl ⟨a, by omega, e⟩
        · by_cases q : a = b
          · rw [q]; exact Or.inr ⟨v, hv, ev⟩
          · exact h1 a (by omega)
        · by_cases q : a = b
          · by_cases q2 : c = b
            · omega
            · rw [q, ev] at e
              exact absurd ⟨c, by omega, e.symm⟩ nb
          · by_cases q2 : c = b
            · rw [q2, ev] at e
              exact absurd ⟨a, by omega, e⟩ nb
            · exact h2 a c (by omega) (by omega) e ne
    · rw [if_neg c2] at h; cases h
theorem x_layL {j n : Nat} (hn : n ≤ 12) (hj : 44 ≤ j) : ∀ (F m b : Nat) (σ : HS), m < F → b + m = n → gI σ j 2 = nI n → gI σ 1 1 = nI n → ∃ τ, c_X8_lay_52 F j (nI (cN (gI σ (j + 1)) b)) (nI b) σ = some (nI (cN (gI σ (j + 1)) n), τ) ∧ (∀ k, b ≤ k → k < n → gI τ 2 k = gI σ (j + 1) k) ∧ (∀ k, k < b → gI τ 2 k = gI σ 2 k) ∧ Off (fun i _ => i = 2) σ τ := by
  intro F
  induction F with
  | zero => intro m b σ h; omega
  | succ F ih =>
    intro m b σ hF hb h2 h1
    rw [c_X8_lay_52, h1]
    cases m with
    | zero =>
      have : b = n := by omega
      subst this
      rw [if_pos (by rw [nI_leI (by omega) (by omega)]; omega)]
      exact ⟨σ, rfl, fun k _ _ => by omega, fun _ _ => rfl, Off.rf⟩
    | succ m =>
      have hs2 : gI (sI σ 2 b (gI σ (j + 1) b)) j 2 = nI n := by rw [sI_i (by omega)]; exact h2
      have hs1 : gI (sI σ 2 b (gI σ (j + 1) b)) 1 1 = nI n := by rw [sI_i (by omega)]; exact h1
      have hr : gI (sI σ 2 b (gI σ (j + 1) b)) (j + 1) = gI σ (j + 1) := funext fun k => sI_i (by omega)
      obtain ⟨τ, e, k1, k2, o⟩ := ih m (b + 1) (sI σ 2 b (gI σ (j + 1) b)) (by omega) (by omega) hs2 hs1
      rw [hr] at e k1
      rw [if_neg (by rw [nI_leI (by omega) (by omega)]; omega), x3_at h2 (by omega) (by omega), bi2_s, x_put (i0 := 1) h1 hn (by omega), bi1_s, x3_at hs2 (by omega) (by omega), bi2_s, hr, c_X8_lay_92, c_X8_lay_92, nI_1, nI_1]
      refine ⟨τ, ?_, fun k ha hb => ?_, fun k hk => ?_, Off.tr (Off.sI rfl) o⟩
      · rw [cN] at e
        by_cases c : gI σ (j + 1) b = -1
        · rw [if_pos c] at e ⊢
          exact e
        · rw [if_neg c] at e ⊢
          exact e
      · by_cases q : k = b
        · subst q
          rw [k2 k (by omega), sI_at]
        · exact k1 k (by omega) hb
      · rw [k2 k (by omega), sI_k (by omega)]
theorem m_lay146 {s n : Nat} {cnt : Int32} (hs : s < 4) (hn : n ≤ 12) : ∀ (F m b : Nat) (υ : HS), m < F → b + m = n → gI υ 0 8 = nI n → ∃ τ, c_X9_lay_146 F (nI s) cnt (nI b) υ = some (cnt, τ) ∧ (∀ k, b ≤ k → k < n → gI τ 4 k = gI υ 13 (40 * s + k)) ∧ (∀ k, k < b → gI τ 4 k = gI υ 4 k) ∧ Off (fun i _ => i = 4) υ τ := by
  intro F
  induction F with
  | zero => intro m b σ h; omega
  | succ F ih =>
    intro m b υ hF hb h8
    rw [c_X9_lay_146, h8]
    cases m with
    | zero =>
      have : b = n := by omega
      subst this
      rw [if_pos (by rw [nI_leI (by omega) (by omega)]; omega)]
      exact ⟨υ, rfl, fun k _ _ => by omega, fun _ _ => rfl, Off.rf⟩
    | succ m =>
      obtain ⟨τ, e, k1, k2, o⟩ := ih m (b + 1) (sI υ 4 b (gI υ 13 (40 * s + b))) (by omega) (by omega) (by rw [sI_i (by omega)]; exact h8)
      rw [if_neg (by rw [nI_leI (by omega) (by omega)]; omega), show (40 : Int32) = nI 40 from rfl, nI_mul, nI_add, if_pos (inb_nI (by omega) (by omega)), if_pos (inb_nI (by omega) (by omega)), lt_eqq, ix_nI (by omega), ix_nI (by omega), nI_1]
      refine ⟨τ, e, fun k ha hb => ?_, fun k hk => ?_, Off.tr (Off.sI rfl) o⟩
      · by_cases q : k = b
        · subst q
          rw [k2 k (by omega), sI_at]
        · rw [k1 k (by omega) hb, sI_i (by omega)]
      · rw [k2 k (by omega), sI_k (by omega)]
theorem m_layL {s n : Nat} {υ : HS} {f : Nat → Int32} (hs : s < 4) (h0 : 0 < n) (hn : n ≤ 12) (h8 : gI υ 0 8 = nI n) (hf : ∀ k, k < n → gI υ 13 (40 * s + k) = f k) : ∀ (F m b : Nat) (x : Int32), m < F → b + m = n → c_X9_lay_45 F (nI s) x (nI (cN f b)) (nI b) υ = if hlF n f m b x = true then c_X9_lay_143 (nI s) (nI (cN f n)) υ else some (-2, υ) := by
  intro F
  induction F with
  | zero => intro m b σ h; omega
  | succ F ih =>
    intro m b x hF hb
    rw [c_X9_lay_45, h8]
    cases m with
    | zero =>
      have : b = n := by omega
      subst this
      rw [if_pos (by rw [nI_leI (by omega) (by omega)]; omega), hlF, if_pos rfl]
    | succ m =>
      have ein : c_X9_in (f b).toInt64 (-1) (nI n - 1).toInt64 υ = some (if f b < -1 then 0 else if nI n - 1 < f b then 0 else 1, υ) := in_is (a := -1)
      have lp : nI n - 1 < f b ↔ ¬ f b < nI n := by rw [pred_nI h0, le_pred h0 (by omega), le_iff_nlt]
      rw [if_neg (by rw [nI_leI (by omega) (by omega)]; omega), show (40 : Int32) = nI 40 from rfl, nI_mul, nI_add, if_pos (inb_nI (by omega) (by omega)), ix_nI (by omega), hf b (by omega), ein, bi2_s, hlF]
      by_cases c1 : f b < -1
      · rw [if_pos c1, if_pos rfl, if_pos c1, if_neg (by decide)]
      rw [if_neg c1, if_neg c1]
      by_cases c2 : f b < nI n
      · rw [if_neg (fun z => lp.mp z c2), if_neg one_ne, if_pos c2]
        by_cases c3 : f b = -1
        · have e := ih m (b + 1) x (by omega) (by omega)
          rw [cN, if_pos c3] at e
          rw [if_pos c3, if_pos c3, c_X9_lay_106, if_pos c3, c_X9_lay_121, if_pos c3, c_X9_lay_135, Int32.or_zero, Int32.add_zero, nI_1]
          exact e
        · rw [if_neg c3, if_neg c3]
          by_cases c4 : ((x >>> (f b &&& 31)) &&& 1) = 1
          · rw [if_pos c4, if_pos c4, if_neg (by decide)]
          · have e := ih m (b + 1) (x ||| ((1 : Int32) <<< (f b &&& 31))) (by omega) (by omega)
            rw [cN, if_neg c3] at e
            rw [if_neg c4, if_neg c4, c_X9_lay_106, if_neg c3, c_X9_lay_121, if_neg c3, c_X9_lay_135, nI_1, nI_1]
            exact e
      · rw [if_pos (lp.mpr c2), if_pos rfl, if_neg c2, if_neg (by decide)]
theorem hlF_alk {n : Nat} {f g : Nat → Int32} (e : alk n f g) : ∀ m b s, b + m = n → hlF n f m b s = hlF n g m b s := by
  intro m
  induction m with
  | zero => intro b s _; rfl
  | succ m ih =>
    intro b s hb
    rw [hlF, hlF, e b (by omega), ih (b + 1) _ (by omega), ih (b + 1) _ (by omega)]
theorem Op_lay {pc : Nat} {σ υ : HS} (p1 : Int32) (h : RelE pc σ υ) : ∃ r σ' υ', c_X8_lay p1 σ = some (r, σ') ∧ c_X9_lay p1 υ = some (r, υ') ∧ RelE pc σ' υ' := by
  have hh := h
  obtain ⟨n, lks, tc, t, ev, H⟩ := h
  have hS : RSh σ υ := H.2.1.2.2.2.2.2.1
  have bad : ∀ v : Int32, ∃ r σ' υ', some (v, σ) = some (r, σ') ∧ some (v, υ) = some (r, υ') ∧ RelE pc σ' υ' := fun v => ⟨_, σ, υ, rfl, rfl, hh⟩
  obtain ⟨⟨h0, hn⟩, hl, hf, hj, ⟨hs1, hk⟩, hs2, hk2, e⟩ := H.1
  rw [c_X8_lay, c_X9_lay, m_shAt, bi2_s]
  rcases x_shAt (p := p1) hS with ⟨c, e1⟩ | ⟨s, hs, rfl, e1⟩
  · rw [e1, bi2_s, mo_0, sh_no c, if_pos rfl]; exact bad _
  have is4 := inb_nI hs (show 4 < 2 ^ 31 by omega)
  rw [e1, bi2_s, mo_1, sh_yes hs, if_neg one_ne, if_pos is4, if_pos is4, ix_nI (by omega), miss_x, bi2_s]
  rcases (hS s hs).2 with ⟨z1, z2⟩ | ⟨z0, so, sz, z1, z2, z3, z4, z5, z6, z7⟩
  · rw [if_pos z1, if_neg one_ne, z2, if_pos rfl]; exact bad _
  have nz : ¬ gI σ (44 + 2 * s) 1 = -1 := by rw [z3]; exact nI_neg (by omega)
  rw [if_neg nz, if_pos rfl, z0, if_neg one_ne, z4, z6, hs1, hs2]
  by_cases c1 : nI sz = nI n
  · have := nI_inj (by omega) (by omega) c1
    subst this
    have ea : alk sz (gI σ (44 + 2 * s + 1)) (fun k => gI υ 13 (40 * s + k)) := z7
    have eh : c_X8_holdsLaying (44 + 2 * s) σ = some (tf (hlF sz (gI σ (44 + 2 * s + 1)) sz 0 0), σ) := x_holdL z4 hn FU sz 0 0 (by rw [FU]; omega) (by omega)
    have em := m_layL (f := gI σ (44 + 2 * s + 1)) hs h0 hn hs2 (fun k hk => (z7 k hk).symm) FU sz 0 0 (by rw [FU]; omega) (by omega)
    rw [if_pos rfl, if_pos rfl, eh, bi2_s, if10, show c_X9_lay_45 FU (nI s) 0 0 0 υ = _ from em]
    by_cases c2 : hlF sz (gI σ (44 + 2 * s + 1)) sz 0 0 = true
    · rw [if_pos c2, if_pos c2]
      obtain ⟨hv, hjv⟩ := hl_ok hn sz 0 0 (by omega) (fun v hv => ⟨fun z => (by rw [bt0] at z; cases z), fun ⟨a, ha, _⟩ => (by omega)⟩) (fun a ha => by omega) (fun a c ha => by omega) c2
      obtain ⟨s1, e2, k1, -, o1⟩ := x_layL hn (show 44 ≤ 44 + 2 * s by omega) FU sz 0 σ (by rw [FU]; omega) (by omega) z4 hs1
      obtain ⟨u1, e3, k2, -, o2⟩ := m_lay146 (cnt := nI (cN (gI σ (44 + 2 * s + 1)) sz)) hs hn FU sz 0 υ (by rw [FU]; omega) (by omega) hs2
      have a1 : alk sz (gI σ (44 + 2 * s + 1)) (gI s1 2) := fun k hk => (k1 k (Nat.zero_le _) hk).symm
      have R : RLy sz lks s1 u1 := ⟨⟨h0, hn⟩, hl, hv.alk a1, hjv.alk a1, ⟨by rw [o1.1 _ _ (by omega)]; exact hs1, by rw [o1.1 _ _ (by omega)]; exact hk⟩, by rw [o2.1 _ _ (by omega)]; exact hs2, by rw [o2.1 _ _ (by omega)]; exact hk2, fun k hk => by rw [k1 k (Nat.zero_le _) hk, k2 k (Nat.zero_le _) hk, z7 k hk]⟩
      rw [show c_X8_lay_52 FU (44 + 2 * s) 0 0 σ = _ from e2, c_X9_lay_143, show c_X9_lay_146 FU (nI s) (nI (cN (gI σ (44 + 2 * s + 1)) sz)) 0 υ = _ from e3]
      exact ⟨_, s1, u1, rfl, rfl, sz, lks, tc, t, ev, H.ly R o1 o2 (fun i k z => by unfold Wa; omega) (fun i k z => by unfold Wm; omega)⟩
    · rw [if_neg c2, if_neg c2]; exact bad _
  · rw [if_neg c1, if_neg c1]; exact bad _
