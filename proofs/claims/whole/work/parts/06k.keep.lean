/-! WHAT KEEPS A LAYING -/
theorem VL.sw {n a b : Nat} {f : Nat → Int32} (h : VL n f) (ha : a < n) (hb : b < n) : VL n (swf f a b) := by
  intro k hk
  rw [swf]
  split
  · exact h a ha
  · split
    · exact h b hb
    · exact h k hk
theorem VJ.sw {n a b : Nat} {f : Nat → Int32} (h : VJ n f) (ha : a < n) (hb : b < n) : VJ n (swf f a b) := by
  intro x y hx hy e hne
  rw [swf] at hne
  unfold swf at e
  by_cases x1 : x = b
  · subst x1
    rw [if_pos rfl] at e hne
    by_cases y1 : y = x
    · exact y1.symm
    · rw [if_neg y1] at e
      by_cases y2 : y = a
      · subst y2
        rw [if_pos rfl] at e
        exact (h y x ha hb e hne).symm
      · rw [if_neg y2] at e
        exact absurd (h a y ha hy e hne).symm y2
  · rw [if_neg x1] at e hne
    by_cases x2 : x = a
    · subst x2
      rw [if_pos rfl] at e hne
      by_cases y1 : y = b
      · subst y1
        rw [if_pos rfl] at e
        exact (h y x hb ha e hne).symm
      · rw [if_neg y1] at e
        by_cases y2 : y = x
        · exact y2.symm
        · rw [if_neg y2] at e
          exact absurd (h b y hb hy e hne).symm y1
    · rw [if_neg x2] at e hne
      by_cases y1 : y = b
      · subst y1
        rw [if_pos rfl] at e
        exact absurd (h x a hx ha e hne) x2
      · rw [if_neg y1] at e
        by_cases y2 : y = a
        · subst y2
          rw [if_pos rfl] at e
          exact absurd (h x b hx hb e hne) x1
        · rw [if_neg y2] at e
          exact h x y hx hy e hne
theorem rvf_keep {n : Nat} : ∀ (m a b : Nat) (f : Nat → Int32), VL n f → VJ n f → b < n → VL n (rvf m f a b) ∧ VJ n (rvf m f a b) := by
  intro m
  induction m with
  | zero => intro a b f h1 h2 _; exact ⟨h1, h2⟩
  | succ m ih =>
    intro a b f h1 h2 hb
    rw [rvf]
    split
    · exact ⟨h1, h2⟩
    · exact ih _ _ _ (h1.sw (by omega) hb) (h2.sw (by omega) hb) (by omega)
theorem nxf_keep {n : Nat} {f g : Nat → Int32} (h0 : 0 < n) (h1 : VL n f) (h2 : VJ n f) (h : nxf n f = some g) : VL n g ∧ VJ n g := by
  rw [nxf] at h
  cases hp : pv f (n - 1) with
  | none => rw [hp] at h; cases h
  | some a =>
    rw [hp] at h
    have ha := (pv_lt (n - 1) hp).1
    have hl := sc_lt (f := f) (a := a) (n - 1)
    cases h
    exact rvf_keep n _ _ _ (h1.sw (by omega) (by omega)) (h2.sw (by omega) (by omega)) (by omega)
/-! what counts of a laying is what lies in its boxes -/
def alk (n : Nat) (f g : Nat → Int32) : Prop := ∀ k, k < n → f k = g k
theorem alk.sym {n : Nat} {f g : Nat → Int32} (h : alk n f g) : alk n g f := fun k hk => (h k hk).symm
theorem VL.alk {n : Nat} {f g : Nat → Int32} (h : VL n f) (e : alk n f g) : VL n g := fun b hb => by rw [← e b hb]; exact h b hb
theorem VJ.alk {n : Nat} {f g : Nat → Int32} (h : VJ n f) (e : alk n f g) : VJ n g := fun a b ha hb q hne => h a b ha hb (by rw [e a ha, e b hb]; exact q) (by rw [e a ha]; exact hne)
theorem wy_alk {n b : Nat} {f g : Nat → Int32} (hn : n ≤ 12) (hb : b < n) (hf : VL n f) (e : alk n f g) : ∀ k, wy f b k = wy g b k := by
  intro k
  induction k with
  | zero => rfl
  | succ k ih =>
    show af f (wy f b k) = af g (wy g b k)
    rw [← ih]
    rcases wy_vl hn hb hf k with h | ⟨v, hv, h⟩
    · rw [h, af_neg, af_neg]
    · rw [h, af_nI (by omega), af_nI (by omega), e v hv]
theorem rl_alk {n b : Nat} {f g : Nat → Int32} (hn : n ≤ 12) (hb : b < n) (hf : VL n f) (e : alk n f g) : rl n f b = rl n g b := by
  rcases rl_spec (f := g) hn hb with ⟨h1, h2⟩ | ⟨h1, h2, h3, h4⟩
  · rcases rl_spec (f := f) hn hb with ⟨h5, h6⟩ | ⟨h5, h6, h7, h8⟩
    · omega
    · rw [wy_alk hn hb hf e] at h7
      exact absurd h7 (h2 _ h5 h6)
  · refine rl_is hn hb h1 h2 (by rw [wy_alk hn hb hf e]; exact h3) (fun j h0 hj => by rw [wy_alk hn hb hf e]; exact h4 j h0 hj)
theorem lsB_alk {n b : Nat} {f g : Nat → Int32} (hn : n ≤ 12) (hb : b < n) (hf : VL n f) (e : alk n f g) : lsB n f b ↔ lsB n g b := by
  rw [lsB, lsB, rl_alk hn hb hf e]
  constructor
  · rintro ⟨h1, h2⟩
    exact ⟨h1, fun k h0 hk v hv q => h2 k h0 hk v hv (by rw [wy_alk hn hb hf e]; exact q)⟩
  · rintro ⟨h1, h2⟩
    exact ⟨h1, fun k h0 hk v hv q => h2 k h0 hk v hv (by rw [← wy_alk hn hb hf e]; exact q)⟩
theorem svR_alk {n : Nat} {f g : Nat → Int32} (hn : n ≤ 12) (hf : VL n f) (e : alk n f g) : ∀ b, b ≤ n → svR n f b = svR n g b := by
  intro b
  induction b with
  | zero => intro _; rfl
  | succ b ih =>
    intro hb
    by_cases c : lsB n f b
    · rw [svR_t c, svR_t ((lsB_alk hn (by omega) hf e).mp c), ih (by omega)]
    · rw [svR_f c, svR_f (fun z => c ((lsB_alk hn (by omega) hf e).mpr z)), ih (by omega)]
theorem svL_alk {n : Nat} {f g : Nat → Int32} (hn : n ≤ 12) (hf : VL n f) (e : alk n f g) : ∀ b, b ≤ n → svL n f b = svL n g b := by
  intro b
  induction b with
  | zero => intro _; rfl
  | succ b ih =>
    intro hb
    by_cases c : lsB n f b
    · rw [svL_t c, svL_t ((lsB_alk hn (by omega) hf e).mp c), ih (by omega), rl_alk hn (by omega) hf e]
    · rw [svL_f c, svL_f (fun z => c ((lsB_alk hn (by omega) hf e).mpr z)), ih (by omega)]
theorem svM_alk {n : Nat} {f g : Nat → Int32} (e : alk n f g) : ∀ b, b ≤ n → svM f b = svM g b := by
  intro b
  induction b with
  | zero => intro _; rfl
  | succ b ih => intro hb; rw [svM, svM, ih (by omega), e b (by omega)]
theorem nx_alk {kd vn lk : Int32} {n b : Nat} {f g : Nat → Int32} (hb : b < n) (e : alk n f g) : nx kd vn n f b lk = nx kd vn n g b lk := by
  rw [nx, nx, e b hb]
theorem lk_alk {kd : Int32} {w n man : Nat} {f g : Nat → Int32} (hn : n ≤ 12) (hw : w ≤ 11) (hf : VL n f) (e : alk n f g) : ∀ m v k, v < n → lk kd (nI w) n f man m (nI v) k = lk kd (nI w) n g man m (nI v) k := by
  intro m
  induction m with
  | zero => intro v k _; rfl
  | succ m ih =>
    intro v k hv
    rw [lk, lk, ix_nI (by omega), e v hv]
    split
    · rfl
    · rw [nx_alk hv e]
      obtain ⟨u, hu, e2⟩ := nx_v (kd := kd) (lk := nI k) hn hv (hf.alk e) hw
      rw [e2]
      exact ih u (k + 1) hu
theorem lkA_alk {kd : Int32} {w n man most : Nat} {f g : Nat → Int32} (hn : n ≤ 12) (hm : man < n) (hw : w ≤ 11) (hf : VL n f) (e : alk n f g) : lkA kd (nI w) n f man most = lkA kd (nI w) n g man most := by
  rw [lkA, lkA]
  obtain ⟨v, hv, e2⟩ := fb_v (kd := kd) hn hm hw
  rw [e2]
  exact lk_alk hn hw hf e most v 1 hv
theorem fnS_alk {kd : Int32} {w n most : Nat} {f g : Nat → Int32} (hn : n ≤ 12) (hw : w ≤ 11) (hf : VL n f) (e : alk n f g) : ∀ m, m ≤ n → fnS kd (nI w) n f most m = fnS kd (nI w) n g most m ∧ tkS kd (nI w) n f most m = tkS kd (nI w) n g most m := by
  intro m
  induction m with
  | zero => intro _; exact ⟨rfl, rfl⟩
  | succ m ih =>
    intro hm
    obtain ⟨h1, h2⟩ := ih (by omega)
    rw [fnS, fnS, tkS, tkS, h1, h2, lkA_alk hn (by omega) hw hf e]
    exact ⟨rfl, rfl⟩
