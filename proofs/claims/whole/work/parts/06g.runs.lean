/-! A RUN OF ALL MEN -/
/-- alike but within S -/
def Off (S : Nat → Nat → Prop) (σ τ : HS) : Prop := (∀ i k, ¬ S i k → gI τ i k = gI σ i k) ∧ (∀ i k, ¬ S i k → gJ τ i k = gJ σ i k) ∧ ∀ i k, gR τ i k = gR σ i k
theorem Off.rf {S : Nat → Nat → Prop} {σ : HS} : Off S σ σ := ⟨fun _ _ _ => rfl, fun _ _ _ => rfl, fun _ _ => rfl⟩
theorem Off.tr {S : Nat → Nat → Prop} {σ τ υ : HS} (h : Off S σ τ) (h2 : Off S τ υ) : Off S σ υ := ⟨fun i k c => (h2.1 i k c).trans (h.1 i k c), fun i k c => (h2.2.1 i k c).trans (h.2.1 i k c), fun i k => (h2.2.2 i k).trans (h.2.2 i k)⟩
theorem Off.mono {S T : Nat → Nat → Prop} {σ τ : HS} (h : Off S σ τ) (hST : ∀ i k, S i k → T i k) : Off T σ τ := ⟨fun i k c => h.1 i k fun z => c (hST i k z), fun i k c => h.2.1 i k fun z => c (hST i k z), h.2.2⟩
theorem Off.sI {S : Nat → Nat → Prop} {σ : HS} {i k : Nat} {v : Int32} (h : S i k) : Off S σ (sI σ i k v) := by
  refine ⟨fun j m c => ?_, fun _ _ _ => rfl, fun _ _ => rfl⟩
  rw [gI_sI, if_neg]
  rintro ⟨rfl, rfl⟩
  exact c h
theorem Off.sJ {S : Nat → Nat → Prop} {σ : HS} {i k : Nat} {v : Int64} (h : S i k) : Off S σ (sJ σ i k v) := by
  refine ⟨fun _ _ _ => rfl, fun j m c => ?_, fun _ _ => rfl⟩
  rw [gJ_sJ, if_neg]
  rintro ⟨rfl, rfl⟩
  exact c h
theorem Off.t3 {S : Nat → Nat → Prop} {σ : HS} {i k : Nat} {a b c : Int32} (h : S i k) (h1 : S i (k + 1)) (h2 : S i (k + 2)) : Off S σ (t3 σ i k a b c) := (Off.sI h).tr ((Off.sI h1).tr (Off.sI h2))
theorem Off.row {S : Nat → Nat → Prop} {σ τ : HS} {i : Nat} (h : Off S σ τ) (hi : ∀ k, ¬ S i k) : gI τ i = gI σ i := funext fun k => h.1 i k (hi k)
def fnS (kd vn : Int32) (n : Nat) (f : Nat → Int32) (most : Nat) : Nat → Nat
  | 0 => 0
  | m + 1 => fnS kd vn n f most m + if lkA kd vn n f m most = 0 then 0 else 1
def tkS (kd vn : Int32) (n : Nat) (f : Nat → Int32) (most : Nat) : Nat → Nat
  | 0 => 0
  | m + 1 => tkS kd vn n f most m + if lkA kd vn n f m most = 0 then most else lkA kd vn n f m most
theorem lkA_le {kd vn : Int32} {n man most : Nat} {f : Nat → Int32} : lkA kd vn n f man most ≤ most := by
  rw [lkA]
  rcases lk_rng (kd := kd) (vn := vn) (n := n) (man := man) (f := f) most (fb kd vn n man) 1 with h | ⟨h, h2⟩ <;> omega
theorem tkS_le {kd vn : Int32} {n most : Nat} {f : Nat → Int32} : ∀ m, tkS kd vn n f most m ≤ m * most := by
  intro m
  induction m with
  | zero => exact Nat.zero_le _
  | succ m ih =>
    rw [tkS, Nat.succ_mul]
    have := lkA_le (kd := kd) (vn := vn) (n := n) (man := m) (most := most) (f := f)
    split <;> omega
theorem fnS_le {kd vn : Int32} {n most : Nat} {f : Nat → Int32} : ∀ m, fnS kd vn n f most m ≤ m := by
  intro m
  induction m with
  | zero => exact Nat.zero_le _
  | succ m ih => rw [fnS]; split <;> omega
theorem x_runL {i1 i2 n most q w : Nat} {σ : HS} (hn : n ≤ 12) (hm : most ≤ 12) (hq : q ≤ 5) (hw : w ≤ 11) (hk : gI σ i1 0 = nI q) (hv : gI σ i1 1 = nI w) (hs : gI σ i2 1 = nI n) (hf : VL n (gI σ (i2 + 1))) : ∀ (F m : Nat), m ≤ n → n - m < F → c_X8_noteRun_14 F i1 i2 (nI most) (nI (fnS (nI q) (nI w) n (gI σ (i2 + 1)) most m)) (nI (tkS (nI q) (nI w) n (gI σ (i2 + 1)) most m)) (nI m) σ = some (sI (sI σ 16 0 (nI (fnS (nI q) (nI w) n (gI σ (i2 + 1)) most n))) 16 2 (nI (tkS (nI q) (nI w) n (gI σ (i2 + 1)) most n))) := by
  intro F
  induction F with
  | zero => intro m h1 h2; omega
  | succ F ih =>
    intro m hmn hF
    rw [c_X8_noteRun_14, hs]
    by_cases c : n ≤ m
    · have : m = n := by omega
      subst this
      rw [if_pos (by rw [nI_leI (by omega) (by omega)]; exact c), c_X8_noteRun_63, if_pos (by decide)]
      rfl
    · have hle := lkA_le (kd := nI q) (vn := nI w) (n := n) (man := m) (most := most) (f := gI σ (i2 + 1))
      rw [if_neg (by rw [nI_leI (by omega) (by omega)]; exact c), x_finds hn hm (by omega) hq hw hk hv hs hf, bi2_s, c_X8_noteRun_57, c_X8_noteRun_57]
      by_cases c2 : lkA (nI q) (nI w) n (gI σ (i2 + 1)) m most = 0
      · have h := ih (m + 1) (by omega) (by omega)
        rw [fnS, tkS, if_pos c2, if_pos c2, Nat.add_zero] at h
        rw [if_pos (by rw [c2]; decide), nI_add, nI_1]
        exact h
      · have h := ih (m + 1) (by omega) (by omega)
        rw [fnS, tkS, if_neg c2, if_neg c2] at h
        rw [if_neg (by rw [← nI_0, nI_leI (by omega) (by omega)]; omega), nI_add, nI_1, nI_1]
        exact h
theorem jxmin_nI {a b : Nat} (ha : a < 2 ^ 31) (hb : b < 2 ^ 31) : jxmin (nI a) (nI b) = nI (min a b) := by
  rw [jxmin]
  by_cases c : b < a
  · rw [if_pos ((nI_ltI hb ha).mpr c), Nat.min_eq_right (by omega)]
  · rw [if_neg (fun h => c ((nI_ltI hb ha).mp h)), Nat.min_eq_left (by omega)]
theorem x_run {i1 i2 n n1 lks q w : Nat} {σ : HS} (hn : n ≤ 12) (hl : lks ≤ 12) (hq : q ≤ 5) (hw : w ≤ 11) (hlk : gI σ 0 1 = nI lks) (hn1 : gI σ 1 1 = nI n1) (hn2 : n1 ≤ 12) (hk : gI σ i1 0 = nI q) (hv : gI σ i1 1 = nI w) (hs : gI σ i2 1 = nI n) (hf : VL n (gI σ (i2 + 1))) : c_X8_noteRun i1 i2 σ = some (sI (sI σ 16 0 (nI (fnS (nI q) (nI w) n (gI σ (i2 + 1)) (min lks n1) n))) 16 2 (nI (tkS (nI q) (nI w) n (gI σ (i2 + 1)) (min lks n1) n))) := by
  rw [c_X8_noteRun, c_X8_looksOfEach, bi2_s, hlk, hn1, jxmin_nI (by omega) (by omega)]
  exact x_runL hn (by omega) hq hw hk hv hs hf FU 0 (by omega) (by rw [FU]; omega)
/-- facts of a laying, noted -/
theorem x_note {i0 n : Nat} {σ : HS} (hs : gI σ i0 1 = nI n) (hn : n ≤ 12) (hi : i0 ≠ 16) (hf : VL n (gI σ (i0 + 1))) (hj : VJ n (gI σ (i0 + 1))) : c_X8_noteLaying i0 σ = some (sI (sI (sI (sI (svX i0 n σ n) 16 1 (nI n)) 16 3 (nI (svM (gI σ (i0 + 1)) n))) 16 4 (nI (svR n (gI σ (i0 + 1)) n))) 16 5 (nI (svL n (gI σ (i0 + 1)) n))) := by
  rw [c_X8_noteLaying, x_survey hs hn hf hj, bi1_s, if_pos (by decide)]
  have e1 : gI (svX i0 n σ n) i0 1 = nI n := by rw [svX, t3_ne (by omega), hs]
  have e2 : gI (svX i0 n σ n) i0 2 = nI (svR n (gI σ (i0 + 1)) n) := by rw [svX, gI_t3]; simp
  have e3 : gI (svX i0 n σ n) i0 3 = nI (svL n (gI σ (i0 + 1)) n) := by rw [svX, gI_t3]; simp
  have e4 : gI (svX i0 n σ n) i0 4 = nI (svM (gI σ (i0 + 1)) n) := by rw [svX, gI_t3]; simp
  have x1 : ix 1 = 1 := by decide
  have x3 : ix 3 = 3 := by decide
  have x4 : ix 4 = 4 := by decide
  have x5 : ix 5 = 5 := by decide
  show (if inb 3 6 = true then _ else none) = _
  rw [if_pos (by decide)]
  show (if inb 4 6 = true then _ else none) = _
  rw [if_pos (by decide)]
  show (if inb 5 6 = true then _ else none) = _
  rw [if_pos (by decide)]
  show some _ = some _
  rw [x1, x3, x4, x5, gI_sI, gI_sI, gI_sI, gI_sI, gI_sI, gI_sI, if_neg (by omega), if_neg (by omega), if_neg (by omega), if_neg (by omega), if_neg (by omega), if_neg (by omega), e1, e2, e3, e4]
