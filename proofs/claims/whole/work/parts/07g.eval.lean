/-! WHAT A TEXT COMES TO -/
def StX (j : Nat) (vs : List Int32) (σ : HS) : Prop := gI σ j 4 = nI vs.length ∧ ∀ k, k < vs.length → gI σ (j + 3) k = vs.getD k 0
def SXj (j i k : Nat) : Prop := (i = j ∧ k = 4) ∨ i = j + 3
theorem gdi_l {l : List Int32} {x : Int32} {k : Nat} (h : k < l.length) : (l ++ [x]).getD k 0 = l.getD k 0 := by rw [List.getD_eq_getElem?_getD, List.getD_eq_getElem?_getD, List.getElem?_append_left h]
theorem gdi_r {l : List Int32} {x : Int32} : (l ++ [x]).getD l.length 0 = x := by
  rw [List.getD_eq_getElem?_getD, List.getElem?_append_right (Nat.le_refl _), Nat.sub_self]
  rfl
theorem v_push {j : Nat} {vs : List Int32} {v : Int32} {σ : HS} (h : StX j vs σ) (hl : vs.length < 40) : ∃ σ', c_X6_push j v σ = some σ' ∧ StX j (vs ++ [v]) σ' ∧ Off (SXj j) σ σ' := by
  refine ⟨sI (sI σ (j + 3) vs.length v) j 4 (nI (vs.length + 1)), ?_, ⟨?_, fun k hk => ?_⟩, (Off.sI (Or.inr rfl)).tr (Off.sI (Or.inl ⟨rfl, rfl⟩))⟩
  · rw [c_X6_push, h.1, if_neg (by rw [show (40 : Int32) = nI 40 from rfl, nI_leI (by omega) (by omega)]; omega), if_pos (inb_nI (by omega) (by omega)), lt_eqq, lt_eqq, ix_nI (by omega), sI_i (by omega), h.1, nI_1]
  · rw [sI_at, List.length_append, List.length_singleton]
  · rw [List.length_append, List.length_singleton] at hk
    rw [sI_i (by omega)]
    by_cases e : k = vs.length
    · rw [e, sI_at, gdi_r]
    · rw [sI_k e, gdi_l (by omega)]; exact h.2 k (by omega)
theorem v_pull {j : Nat} {vs : List Int32} {v : Int32} {σ : HS} (h : StX j (vs ++ [v]) σ) (hl : vs.length < 40) : ∃ σ', c_X6_pull j σ = some (v, σ') ∧ StX j vs σ' ∧ Off (SXj j) σ σ' := by
  have hL : gI σ j 4 = nI (vs.length + 1) := by rw [h.1, List.length_append, List.length_singleton]
  refine ⟨sI σ j 4 (nI vs.length), ?_, ⟨sI_at _ _ _ _, fun k hk => ?_⟩, Off.sI (Or.inl ⟨rfl, rfl⟩)⟩
  · have hv := h.2 vs.length (by rw [List.length_append, List.length_singleton]; omega)
    rw [gdi_r] at hv
    rw [c_X6_pull, hL, if_pos (by rw [show (1 : Int32) = nI 1 from rfl, nI_leI (by omega) (by omega)]; omega), nI_pred, lt_eqq, sI_at, if_pos (inb_nI hl (by omega)), ix_nI (by omega), sI_i (by omega), hv]
  · rw [sI_i (by omega), h.2 k (by rw [List.length_append, List.length_singleton]; omega), gdi_l hk]
theorem StX.off16 {j : Nat} {σ τ : HS} (hj : 20 ≤ j) (o : Off (SXj j) σ τ) : gI τ 16 = gI σ 16 := o.row fun k z => by unfold SXj at z; omega
def wk (j : Nat) : List Nat → HS → Option HS
  | [], σ => some σ
  | c :: cs, σ => bi1 (c_X6_work j (nI c) σ) (fun s => wk j cs s)
theorem wk_app {j : Nat} : ∀ (a c : List Nat) (σ : HS), wk j (a ++ c) σ = bi1 (wk j a σ) (fun s => wk j c s) := by
  intro a
  induction a with
  | nil => intro c σ; rfl
  | cons x a ih =>
    intro c σ
    rw [List.cons_append, wk, wk]
    cases h : c_X6_work j (nI x) σ with
    | none => rfl
    | some s => rw [bi1_s, bi1_s, ih]
def Vl (v : Vf) : Prop := ∀ g h : Nat → Int32, (∀ k, k < 6 → g k = h k) → v g = v h
def Ev (need : Nat) (c : List Nat) (v : Vf) : Prop := Vl v ∧ ∀ j σ (vs : List Int32), 20 ≤ j → vs.length + need ≤ 40 → StX j vs σ → ∃ σ', wk j c σ = some σ' ∧ StX j (vs ++ [v (gI σ 16)]) σ' ∧ Off (SXj j) σ σ'
theorem Ev.mono {n m : Nat} {c : List Nat} {v : Vf} (h : Ev n c v) (hm : n ≤ m) : Ev m c v := ⟨h.1, fun j σ vs hj hl hs => h.2 j σ vs hj (by omega) hs⟩
theorem lit_wk : (10000 : Int32) = nI 10000 ∧ (10006 : Int32) = nI 10006 ∧ (10011 : Int32) = nI 10011 ∧ (10020 : Int32) = nI 10020 := ⟨rfl, rfl, rfl, rfl⟩
theorem Ev.atom {c : Nat} (hc : c < 10006) : Ev 1 [c] (fun f => if c < 10000 then nI c else f (c - 10000)) := by
  refine ⟨fun g h e => ?_, fun j σ vs hj hl hs => ?_⟩
  · show (if c < 10000 then nI c else g (c - 10000)) = (if c < 10000 then nI c else h (c - 10000))
    by_cases c1 : c < 10000
    · rw [if_pos c1, if_pos c1]
    · rw [if_neg c1, if_neg c1, e _ (by omega)]
  · show ∃ σ', bi1 (c_X6_work j (nI c) σ) (fun s => some s) = some σ' ∧ StX j (vs ++ [if c < 10000 then nI c else gI σ 16 (c - 10000)]) σ' ∧ _
    rw [c_X6_work, lit_wk.1, lit_wk.2.1]
    by_cases c1 : c < 10000
    · obtain ⟨s1, e1, h1, o1⟩ := v_push (v := nI c) hs (by omega)
      rw [if_neg (by rw [nI_leI (by omega) (by omega)]; omega), e1, bi1_s, if_pos c1]
      exact ⟨s1, rfl, h1, o1⟩
    · obtain ⟨s1, e1, h1, o1⟩ := v_push (v := gI σ 16 (c - 10000)) hs (by omega)
      rw [if_pos (by rw [nI_leI (by omega) (by omega)]; omega), if_neg (by rw [nI_leI (by omega) (by omega)]; omega), nI_sub (by omega), if_neg (by rw [show (6 : Int32) = nI 6 from rfl, nI_leI (by omega) (by omega)]; omega), if_pos (inb_nI (by omega) (by omega)), ix_nI (by omega), c_X6_work_42, e1, bi1_s, if_neg c1]
      exact ⟨s1, rfl, h1, o1⟩
theorem Ev.neg {n : Nat} {c : List Nat} {v : Vf} (h : Ev n c v) (hn : 1 ≤ n) : Ev n (c ++ [10020]) (fun f => - v f) := by
  refine ⟨fun g k e => ?_, fun j σ vs hj hl hs => ?_⟩
  · show - v g = - v k
    rw [h.1 g k e]
  · obtain ⟨s1, e1, h1, o1⟩ := h.2 j σ vs hj hl hs
    obtain ⟨s2, e2, h2, o2⟩ := v_pull h1 (by omega)
    obtain ⟨s3, e3, h3, o3⟩ := v_push (v := - v (gI σ 16)) h2 (by omega)
    refine ⟨s3, ?_, h3, o1.tr (o2.tr o3)⟩
    rw [wk_app, e1, bi1_s]
    show bi1 (c_X6_work j (nI 10020) s1) (fun s => some s) = some s3
    rw [c_X6_work, lit_wk.1, lit_wk.2.1, lit_wk.2.2.1, lit_wk.2.2.2, if_pos (by rw [nI_leI (by omega) (by omega)]; omega), if_pos (by rw [nI_leI (by omega) (by omega)]; omega), if_neg (by rw [nI_eq (by omega) (by omega)]; omega), if_pos rfl, e2, bi2_s, e3]
    rfl
theorem Ev.nt {n : Nat} {c : List Nat} {v : Vf} (h : Ev n c v) (hn : 1 ≤ n) : Ev n (c ++ [10011]) (fun f => if v f = 0 then 1 else 0) := by
  refine ⟨fun g k e => ?_, fun j σ vs hj hl hs => ?_⟩
  · show (if v g = 0 then (1 : Int32) else 0) = if v k = 0 then 1 else 0
    rw [h.1 g k e]
  · obtain ⟨s1, e1, h1, o1⟩ := h.2 j σ vs hj hl hs
    obtain ⟨s2, e2, h2, o2⟩ := v_pull h1 (by omega)
    obtain ⟨s3, e3, h3, o3⟩ := v_push (v := if v (gI σ 16) = 0 then 1 else 0) h2 (by omega)
    refine ⟨s3, ?_, h3, o1.tr (o2.tr o3)⟩
    rw [wk_app, e1, bi1_s]
    show bi1 (c_X6_work j (nI 10011) s1) (fun s => some s) = some s3
    rw [c_X6_work, lit_wk.1, lit_wk.2.1, lit_wk.2.2.1, if_pos (by rw [nI_leI (by omega) (by omega)]; omega), if_pos (by rw [nI_leI (by omega) (by omega)]; omega), if_pos rfl, e2, bi2_s]
    by_cases c1 : v (gI σ 16) = 0
    · rw [if_pos c1] at e3 ⊢
      rw [c_X6_work_68, e3]; rfl
    · rw [if_neg c1] at e3 ⊢
      rw [c_X6_work_68, e3]; rfl
def isJ (c : Nat) : Prop := c = 10009 ∨ c = 10010 ∨ (10015 ≤ c ∧ c ≤ 10019)
theorem x_join {c : Nat} (hc : isJ c) (x y : Int32) (σ : HS) : c_X6_join (nI c) x y σ = some (jn c x y, σ) := by
  have : c = 10009 ∨ c = 10010 ∨ c = 10015 ∨ c = 10016 ∨ c = 10017 ∨ c = 10018 ∨ c = 10019 := by unfold isJ at hc; omega
  rw [c_X6_join]
  rcases this with rfl | rfl | rfl | rfl | rfl | rfl | rfl
  · rw [if_pos (by decide), jn9]
    by_cases c1 : x = 0
    · rw [if_pos c1, if_pos c1]
      by_cases c2 : y = 0
      · rw [if_pos c2, if_pos c2]
      · rw [if_neg c2, if_neg c2]
    · rw [if_neg c1, if_neg c1]
  · rw [if_neg (by decide), if_pos (by decide), jn10]
    by_cases c1 : x = 0
    · rw [if_pos c1, if_pos c1]
    · rw [if_neg c1, if_neg c1]
      by_cases c2 : y = 0
      · rw [if_pos c2, if_pos c2]
      · rw [if_neg c2, if_neg c2]
  · rw [if_neg (by decide), if_neg (by decide), if_pos (by decide), jn15]
  · rw [if_neg (by decide), if_neg (by decide), if_neg (by decide), if_pos (by decide), jn16]
  · rw [if_neg (by decide), if_neg (by decide), if_neg (by decide), if_neg (by decide), if_pos (by decide), jn17]
  · rw [if_neg (by decide), if_neg (by decide), if_neg (by decide), if_neg (by decide), if_neg (by decide), if_pos (by decide), jn18]
    by_cases c1 : y ≤ x
    · rw [if_pos c1, if_pos c1]
    · rw [if_neg c1, if_neg c1]
  · rw [if_neg (by decide), if_neg (by decide), if_neg (by decide), if_neg (by decide), if_neg (by decide), if_neg (by decide), if_pos (by decide), jn19]
    by_cases c1 : x = y
    · rw [if_pos c1, if_pos c1]
    · rw [if_neg c1, if_neg c1]
theorem Ev_jn {n m op : Nat} {c c' : List Nat} {v v' : Vf} (h : Ev n c v) (h' : Ev m c' v') (hm0 : 1 ≤ m) (hn : m + 1 ≤ n) (hop : isJ op) : Ev n (c ++ c' ++ [op]) (fun f => jn op (v f) (v' f)) := by
  refine ⟨fun g k e => ?_, fun j σ vs hj hl hs => ?_⟩
  · show jn op (v g) (v' g) = jn op (v k) (v' k)
    rw [h.1 g k e, h'.1 g k e]
  · obtain ⟨s1, e1, h1, o1⟩ := h.2 j σ vs hj hl hs
    obtain ⟨s2, e2, h2, o2⟩ := h'.2 j s1 (vs ++ [v (gI σ 16)]) hj (by rw [List.length_append, List.length_singleton]; omega) h1
    rw [StX.off16 hj o1] at h2
    obtain ⟨s3, e3, h3, o3⟩ := v_pull h2 (by rw [List.length_append, List.length_singleton]; omega)
    obtain ⟨s4, e4, h4, o4⟩ := v_pull h3 (by omega)
    obtain ⟨s5, e5, h5, o5⟩ := v_push (v := jn op (v (gI σ 16)) (v' (gI σ 16))) h4 (by omega)
    refine ⟨s5, ?_, h5, o1.tr (o2.tr (o3.tr (o4.tr o5)))⟩
    rw [wk_app, wk_app, e1, bi1_s, e2, bi1_s]
    show bi1 (c_X6_work j (nI op) s2) (fun s => some s) = some s5
    have : op = 10009 ∨ op = 10010 ∨ (10015 ≤ op ∧ op ≤ 10019) := hop
    rw [c_X6_work, lit_wk.1, lit_wk.2.1, lit_wk.2.2.1, lit_wk.2.2.2, if_pos (by rw [nI_leI (by omega) (by omega)]; omega), if_pos (by rw [nI_leI (by omega) (by omega)]; omega), if_neg (by rw [nI_eq (by omega) (by omega)]; omega), if_neg (by rw [nI_eq (by omega) (by omega)]; omega), e3, bi2_s, e4, bi2_s, x_join hop, bi2_s, e5]
    rfl
def EvR (n : Nat) (sub : Nat → Rs) : Prop := ∀ p, (sub p).1 = true → Ev n (sub p).2.2.1 (sub p).2.2.2
theorem EvR.mono {n m : Nat} {sub : Nat → Rs} (h : EvR n sub) (hm : n ≤ m) : EvR m sub := fun p hp => (h p hp).mono hm
theorem nok_ev {n : Nat} : EvR n nok := fun p h => by cases h
theorem rb_ev {n m : Nat} {r : Rs} {k : Nat → List Nat → Vf → Rs} (h : r.1 = true → Ev m r.2.2.1 r.2.2.2) (hk : ∀ q c v, Ev m c v → (k q c v).1 = true → Ev n (k q c v).2.2.1 (k q c v).2.2.2) : (rb r k).1 = true → Ev n (rb r k).2.2.1 (rb r k).2.2.2 := by
  by_cases c : r.1 = true
  · rw [rb_t c]; exact hk _ _ _ (h c)
  · rw [rb_f (Bool.eq_false_iff.mpr c)]; intro z; cases z
theorem PLp_ev {g : Nat → Int32} {n m : Nat} {sub : Nat → Rs} {op : Nat → Bool} (hm0 : 1 ≤ m) (hs : EvR m sub) (hm : m + 1 ≤ n) (hop : ∀ c, op c = true → isJ c) : ∀ k p c v, Ev n c v → (PLp g sub op k p c v).1 = true → Ev n (PLp g sub op k p c v).2.2.1 (PLp g sub op k p c v).2.2.2 := by
  intro k
  induction k with
  | zero => intro p c v h _; exact h
  | succ k ih =>
    intro p c v h
    rw [PLp]
    by_cases c1 : op (cd g p) = true
    · rw [if_pos c1]
      exact rb_ev (hs (en g p)) fun q c' v' h' => ih q _ _ (Ev_jn h h' hm0 hm (hop _ c1))
    · rw [if_neg c1]; exact fun _ => h
theorem PBn_ev {g : Nat → Int32} {m : Nat} {sub : Nat → Rs} {op : Nat → Bool} (hm0 : 1 ≤ m) (hs : EvR m sub) (hop : ∀ c, op c = true → isJ c) : EvR (m + 1) (PBn g sub op) := fun p => rb_ev (hs p) fun q c v h => PLp_ev hm0 hs (Nat.le_refl _) hop 160 q c v (h.mono (by omega))
theorem P1_ev {g : Nat → Int32} {m : Nat} {kF kO : Nat → Rs} {dp : Bool} (hm : 1 ≤ m) (hF : EvR m kF) (hO : EvR m kO) : EvR m (P1 g kF kO dp) := by
  intro p
  rw [P1]
  by_cases c1 : cd g p < 10006
  · rw [if_pos c1]; exact fun _ => (Ev.atom c1).mono hm
  rw [if_neg c1]
  by_cases c2 : dp = true
  · rw [if_pos c2]; intro z; cases z
  rw [if_neg c2]
  by_cases c3 : cd g p = 10016
  · rw [if_pos c3]; exact rb_ev (hO _) fun q c v h _ => h.neg hm
  rw [if_neg c3]
  by_cases c4 : cd g p = 10012
  · rw [if_pos c4]
    refine rb_ev (hF _) fun q c v h => ?_
    by_cases c5 : cd g q = 10013
    · rw [if_pos c5]; exact fun _ => h
    · rw [if_neg c5]; intro z; cases z
  · rw [if_neg c4]; intro z; cases z
theorem PC_ev {g : Nat → Int32} {m : Nat} {sub : Nat → Rs} (hm0 : 1 ≤ m) (hs : EvR m sub) : EvR (m + 1) (PC g sub) := by
  intro p
  refine rb_ev (hs p) fun q c v h => ?_
  by_cases c1 : oC (cd g q) = true
  · rw [if_pos c1]
    refine rb_ev (hs _) fun q' c' v' h' _ => Ev_jn (h.mono (by omega)) h' hm0 (Nat.le_refl _) ?_
    rw [oC, Bool.or_eq_true, decide_eq_true_eq, decide_eq_true_eq] at c1
    unfold isJ
    omega
  · rw [if_neg c1]; exact fun _ => h.mono (by omega)
theorem PN_ev {g : Nat → Int32} {n m : Nat} {kN sub : Nat → Rs} {dp : Bool} (hn : 1 ≤ n) (hm0 : 1 ≤ m) (hN : EvR n kN) (hs : EvR m sub) (hm : m + 1 ≤ n) : EvR n (PN g kN sub dp) := by
  intro p
  rw [PN]
  by_cases c1 : cd g p = 10011
  · rw [if_pos c1]
    by_cases c2 : dp = true
    · rw [if_pos c2]; intro z; cases z
    · rw [if_neg c2]; exact rb_ev (hN _) fun q c v h _ => h.nt hn
  · rw [if_neg c1]; exact fun z => (PC_ev hm0 hs p z).mono hm
theorem oT_J : ∀ c, oT c = true → isJ c := fun c h => by rw [oT, decide_eq_true_eq] at h; unfold isJ; omega
theorem oS_J : ∀ c, oS c = true → isJ c := fun c h => by rw [oS, Bool.or_eq_true, decide_eq_true_eq, decide_eq_true_eq] at h; unfold isJ; omega
theorem oA_J : ∀ c, oA c = true → isJ c := fun c h => by rw [oA, decide_eq_true_eq] at h; unfold isJ; omega
theorem oO_J : ∀ c, oO c = true → isJ c := fun c h => by rw [oO, decide_eq_true_eq] at h; unfold isJ; omega
theorem lev_ev {g : Nat → Int32} {m : Nat} {kF kN kO : Nat → Rs} {dp : Bool} (hm : 1 ≤ m) (hF : EvR m kF) (hN : EvR m kN) (hO : EvR m kO) : EvR (m + 5) (PFm g kF kN kO dp) ∧ EvR (m + 5) (PNt g kF kN kO dp) ∧ EvR (m + 5) (P1 g kF kO dp) := by
  have h1 : EvR m (P1 g kF kO dp) := P1_ev hm hF hO
  have h3 : EvR (m + 2) (PSm g kF kO dp) := PBn_ev (by omega) (PBn_ev hm h1 oT_J) oS_J
  have h4 : EvR (m + 3) (PNt g kF kN kO dp) := PN_ev (by omega) (by omega) (hN.mono (by omega)) h3 (by omega)
  exact ⟨PBn_ev (by omega) (PBn_ev (by omega) h4 oA_J) oO_J, h4.mono (by omega), h1.mono (by omega)⟩
theorem pz_ev {g : Nat → Int32} : ∀ d, EvR (6 + 5 * d) (pz g d).1 ∧ EvR (6 + 5 * d) (pz g d).2.1 ∧ EvR (6 + 5 * d) (pz g d).2.2 := by
  intro d
  induction d with
  | zero => exact lev_ev (Nat.le_refl 1) nok_ev nok_ev nok_ev
  | succ d ih =>
    rw [show 6 + 5 * (d + 1) = 6 + 5 * d + 5 by omega]
    exact lev_ev (by omega) ih.1 ih.2.1 ih.2.2
theorem PPt_ev {g : Nat → Int32} {key p : Nat} : (PPt g key p).1 = true → Ev 31 (PPt g key p).2.2.1 (PPt g key p).2.2.2 := by
  rw [PPt]
  by_cases c1 : cd g p = key
  · rw [if_pos c1]
    refine rb_ev ((pz_ev 5).1 (en g p)) fun q c v h => ?_
    by_cases c5 : cd g q = 10014
    · rw [if_pos c5]; exact fun _ => h
    · rw [if_neg c5]; intro z; cases z
  · rw [if_neg c1]; intro z; cases z
/-! a part of a text, worked out -/
def wkN (j : Nat) (C : List Nat) : Nat → Nat → HS → Option HS
  | 0, _, σ => some σ
  | m + 1, x, σ => bi1 (c_X6_work j (nI (C.getD x 0)) σ) (fun s => wkN j C m (x + 1) s)
theorem gd_mid {A D : List Nat} {x : Nat} {B : List Nat} : (A ++ (x :: B) ++ D).getD A.length 0 = x := by
  rw [List.getD_eq_getElem?_getD, List.append_assoc, List.getElem?_append_right (Nat.le_refl _), Nat.sub_self]
  rfl
theorem wkN_seg {j : Nat} : ∀ (B A D : List Nat) (σ : HS), wkN j (A ++ B ++ D) B.length A.length σ = wk j B σ := by
  intro B
  induction B with
  | nil => intro A D σ; rfl
  | cons x B ih =>
    intro A D σ
    rw [List.length_cons, wkN, gd_mid, wk]
    refine congrArg (bi1 (c_X6_work j (nI x) σ)) (funext fun s => ?_)
    have h := ih (A ++ [x]) D s
    rw [List.length_append, List.length_singleton, List.append_assoc A [x] B] at h
    exact h
theorem push_off {j : Nat} {v : Int32} {σ τ : HS} (h : c_X6_push j v σ = some τ) : Off (SXj j) σ τ := by
  rw [c_X6_push] at h
  by_cases c : (40 : Int32) ≤ gI σ j 4
  · rw [if_pos c] at h; cases h; exact Off.rf
  · rw [if_neg c] at h
    obtain ⟨_, h⟩ := gd h
    rw [lt_eqq, lt_eqq] at h
    cases h
    exact (Off.sI (Or.inr rfl)).tr (Off.sI (Or.inl ⟨rfl, rfl⟩))
theorem pull_off {j : Nat} {v : Int32} {σ τ : HS} (h : c_X6_pull j σ = some (v, τ)) : Off (SXj j) σ τ := by
  rw [c_X6_pull] at h
  by_cases c : 1 ≤ gI σ j 4
  · rw [if_pos c, lt_eqq] at h
    obtain ⟨_, h⟩ := gd h
    cases h
    exact Off.sI (Or.inl ⟨rfl, rfl⟩)
  · rw [if_neg c] at h; cases h; exact Off.rf
theorem join_off {p x y r : Int32} {σ τ : HS} (h : c_X6_join p x y σ = some (r, τ)) : τ = σ := by
  unfold c_X6_join at h
  repeat' split at h
  all_goals (cases h; rfl)
theorem work_off {j : Nat} {y : Int32} {σ τ : HS} (h : c_X6_work j y σ = some τ) : Off (SXj j) σ τ := by
  have p42 : ∀ {v : Int32} {a c : HS}, c_X6_work_42 j v a = some c → Off (SXj j) a c := by
    intro v a c h
    rw [c_X6_work_42] at h
    obtain ⟨s, e1, e2⟩ := bd1 h
    cases e2
    exact push_off e1
  have p68 : ∀ {v : Int32} {a c : HS}, c_X6_work_68 j v a = some c → Off (SXj j) a c := by
    intro v a c h
    rw [c_X6_work_68] at h
    obtain ⟨s, e1, e2⟩ := bd1 h
    cases e2
    exact push_off e1
  rw [c_X6_work] at h
  by_cases c1 : 10000 ≤ y
  · rw [if_pos c1] at h
    by_cases c2 : 10006 ≤ y
    · rw [if_pos c2] at h
      by_cases c3 : y = 10011
      · rw [if_pos c3] at h
        obtain ⟨r, s, e1, e2⟩ := bd2 h
        by_cases c4 : r = 0
        · rw [if_pos c4] at e2; exact (pull_off e1).tr (p68 e2)
        · rw [if_neg c4] at e2; exact (pull_off e1).tr (p68 e2)
      · rw [if_neg c3] at h
        by_cases c4 : y = 10020
        · rw [if_pos c4] at h
          obtain ⟨r, s, e1, e2⟩ := bd2 h
          obtain ⟨s2, e3, e4⟩ := bd1 e2
          cases e4
          exact (pull_off e1).tr (push_off e3)
        · rw [if_neg c4] at h
          obtain ⟨r, s, e1, e2⟩ := bd2 h
          obtain ⟨r2, s2, e3, e4⟩ := bd2 e2
          obtain ⟨r3, s3, e5, e6⟩ := bd2 e4
          obtain ⟨s4, e7, e8⟩ := bd1 e6
          cases e8
          have := join_off e5
          subst this
          exact (pull_off e1).tr ((pull_off e3).tr (push_off e7))
    · rw [if_neg c2] at h
      by_cases c3 : 6 ≤ y - 10000
      · rw [if_pos c3] at h; exact p42 h
      · rw [if_neg c3] at h
        obtain ⟨_, h⟩ := gd h
        exact p42 h
  · rw [if_neg c1] at h
    obtain ⟨s, e1, e2⟩ := bd1 h
    cases e2
    exact push_off e1
theorem worthL {j wh E : Nat} {C : List Nat} (hwh : wh < 3) (hE : E ≤ 160) : ∀ (F m x : Nat) (σ τ : HS), m < F → x + m = E → gI σ (j + 2) wh = nI E → (∀ k, k < E → gI σ (j + 1) k = nI (C.getD k 0)) → wkN j C m x σ = some τ → c_X6_worth_36 F j (nI wh) (nI x) σ = c_X6_worth_73 j τ := by
  intro F
  induction F with
  | zero => intro m x σ τ h1; omega
  | succ F ih =>
    intro m x σ τ hF hx h2 h1 hw
    rw [c_X6_worth_36, if_pos (inb_nI hwh (by omega)), ix_nI (by omega), h2]
    cases m with
    | zero =>
      rw [wkN] at hw
      rw [if_pos (by rw [nI_leI (by omega) (by omega)]; omega), Option.some.inj hw]
    | succ m =>
      rw [if_neg (by rw [nI_leI (by omega) (by omega)]; omega), if_neg (by rw [show (160 : Int32) = nI 160 from rfl, nI_leI (by omega) (by omega)]; omega), if_pos (inb_nI (by omega) (by omega)), ix_nI (by omega), h1 x (by omega)]
      rw [wkN] at hw
      obtain ⟨s, e1, e2⟩ := bd1 hw
      have o := work_off e1
      rw [e1, bi1_s, nI_1]
      exact ih m (x + 1) s τ (by omega) (by omega) (by rw [o.1 (j + 2) wh (by unfold SXj; omega)]; exact h2) (fun k hk2 => by rw [o.1 (j + 1) k (by unfold SXj; omega)]; exact h1 k hk2) e2
theorem seg_worth {j wh : Nat} {C A B D : List Nat} {v : Vf} {σ : HS} (hj : 20 ≤ j) (hwh : wh < 3) (hC : C = A ++ B ++ D) (hl : C.length ≤ 160) (hB : Ev 31 B v) (h2 : gI σ (j + 2) wh = nI (A.length + B.length)) (h1 : ∀ k, k < C.length → gI σ (j + 1) k = nI (C.getD k 0)) : ∃ τ, c_X6_worth_32 j (nI wh) (nI A.length) (sI σ j 4 0) = some (v (gI σ 16), τ) ∧ Off (SXj j) σ τ := by
  have hlen : A.length + B.length ≤ C.length := by rw [hC, List.length_append, List.length_append]; omega
  have S0 : StX j [] (sI σ j 4 0) := ⟨sI_at _ _ _ _, fun k hk => by cases hk⟩
  obtain ⟨s1, e1, h3, o1⟩ := hB.2 j (sI σ j 4 0) [] hj (by show 0 + 31 ≤ 40; omega) S0
  have g16 : gI (sI σ j 4 0) 16 = gI σ 16 := funext fun k => sI_i (by omega)
  rw [g16] at h3
  obtain ⟨s2, e2, h4, o2⟩ := v_pull (vs := []) h3 (by show 0 < 40; omega)
  refine ⟨s2, ?_, (Off.sI (Or.inl ⟨rfl, rfl⟩)).tr (o1.tr o2)⟩
  rw [← wkN_seg B A D, ← hC] at e1
  rw [c_X6_worth_32, worthL (C := C) hwh (E := A.length + B.length) (by omega) FU B.length A.length _ s1 (by rw [FU]; omega) rfl (by rw [sI_i (by omega)]; exact h2) (fun k hk => by rw [sI_i (by omega)]; exact h1 k (by omega)) e1, c_X6_worth_73, e2, bi2_s]
theorem evX_of {g : Nat → Int32} {C E : Nat → Int32} {t : Nat} (hP : Pok g) (hl : (Pcs g).length ≤ 160) (hC : ∀ k, k < (Pcs g).length → C k = nI ((Pcs g).getD k 0)) (h0 : E 0 = nI (P0t g).2.2.1.length) (h1 : E 1 = nI ((P0t g).2.2.1.length + (P1t g).2.2.1.length)) (h2 : E 2 = nI (Pcs g).length) : EvX C E t (Pvl g) := by
  intro τ tC tE wh hwh
  obtain ⟨p0, p1, p2, _⟩ := hP
  have e0 : Ev 31 (P0t g).2.2.1 (P0t g).2.2.2 := PPt_ev p0
  have e1 : Ev 31 (P1t g).2.2.1 (P1t g).2.2.2 := PPt_ev p1
  have e2 : Ev 31 (P2t g).2.2.1 (P2t g).2.2.2 := PPt_ev p2
  have cc : ∀ k, k < (Pcs g).length → gI τ (20 + 4 * t + 1) k = nI ((Pcs g).getD k 0) := fun k hk => by rw [tC k (by omega), hC k hk]
  have l2 : (Pcs g).length = (P0t g).2.2.1.length + (P1t g).2.2.1.length + (P2t g).2.2.1.length := by rw [Pcs, List.length_append, List.length_append]
  have mo : ∀ {a c : HS}, Off (SXj (20 + 4 * t)) a c → Off (SXt t) a c := fun o => o.mono fun i k z => by unfold SXj at z; unfold SXt; omega
  rw [c_X6_worth, if_neg (nI_pos (by omega)), if_pos (by rw [show (3 : Int32) = nI 3 from rfl, nI_ltI (by omega) (by omega)]; omega), lt_eqq]
  have : wh = 0 ∨ wh = 1 ∨ wh = 2 := by omega
  rcases this with rfl | rfl | rfl
  · obtain ⟨s, q1, q2⟩ := seg_worth (j := 20 + 4 * t) (wh := 0) (A := []) (B := (P0t g).2.2.1) (D := (P1t g).2.2.1 ++ (P2t g).2.2.1) (σ := τ) (by omega) (by omega) (show Pcs g = _ by rw [Pcs, List.nil_append, List.append_assoc]) hl e0 (by rw [tE 0 (by omega), h0]; exact congrArg nI (by simp)) cc
    exact ⟨s, by rw [if_pos (show nI 0 = 0 from rfl)]; exact q1, mo q2⟩
  · obtain ⟨s, q1, q2⟩ := seg_worth (j := 20 + 4 * t) (wh := 1) (A := (P0t g).2.2.1) (B := (P1t g).2.2.1) (D := (P2t g).2.2.1) (σ := τ) (by omega) (by omega) rfl hl e1 (by rw [tE 1 (by omega), h1]) cc
    refine ⟨s, ?_, mo q2⟩
    rw [if_neg (by decide), if_pos (by decide), show ix (nI 1 - 1) = 0 by decide, sI_i (by omega), tE 0 (by omega), h0]
    exact q1
  · obtain ⟨s, q1, q2⟩ := seg_worth (j := 20 + 4 * t) (wh := 2) (A := (P0t g).2.2.1 ++ (P1t g).2.2.1) (B := (P2t g).2.2.1) (D := []) (σ := τ) (by omega) (by omega) (show Pcs g = _ by rw [List.append_nil]; rfl) hl e2 (by rw [tE 2 (by omega), h2, l2, List.length_append]) cc
    refine ⟨s, ?_, mo q2⟩
    rw [if_neg (by decide), if_pos (by decide), show ix (nI 2 - 1) = 1 by decide, sI_i (by omega), tE 1 (by omega), h1]
    rw [List.length_append] at q1
    exact q1
theorem evM_of {b : Nat → Nat} {sz t : Nat} {T : Nat → Int32} (hP : Pok (gB b sz)) (hB : sz ≤ 160 ∧ ∀ k, k < sz → b k < 256) (ht : t < 6) (hT : ∀ k, k < sz → T (160 * t + k) = nI (b k)) : EvM T (nI sz) t (Pvl (gB b sz)) := by
  intro τ tT tS wh hwh fd lks
  obtain ⟨x, τ', e, h, o⟩ := m_read (wh := wh) (fd := fd) (lks := lks) hB ht tS (fun k hk => by have := hB.1; rw [tT _ (by omega) (by omega), hT k hk]) hwh
  rcases h with ⟨_, hx, _⟩ | ⟨h, _⟩
  · exact ⟨τ', by rw [e, hx], o⟩
  · exact absurd hP h
theorem evf_of {g : Nat → Int32} (hP : Pok g) : Evf (Pvl g) := by
  obtain ⟨p0, p1, p2, _⟩ := hP
  have e0 : Ev 31 (P0t g).2.2.1 (P0t g).2.2.2 := PPt_ev p0
  have e1 : Ev 31 (P1t g).2.2.1 (P1t g).2.2.2 := PPt_ev p1
  have e2 : Ev 31 (P2t g).2.2.1 (P2t g).2.2.2 := PPt_ev p2
  intro wh f h e
  rw [Pvl]
  by_cases c0 : wh = 0
  · rw [if_pos c0]; exact e0.1 f h e
  rw [if_neg c0]
  by_cases c1 : wh = 1
  · rw [if_pos c1]; exact e1.1 f h e
  · rw [if_neg c1]; exact e2.1 f h e
