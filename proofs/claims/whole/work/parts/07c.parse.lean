/-! PARSING: what a row of bytes says -/
abbrev Vf : Type := (Nat → Int32) → Int32
abbrev Rs : Type := Bool × Nat × List Nat × Vf
def nok (p : Nat) : Rs := (false, p, [], fun _ => 0)
def rb (r : Rs) (k : Nat → List Nat → Vf → Rs) : Rs := if r.1 = true then k r.2.1 r.2.2.1 r.2.2.2 else nok r.2.1
def jn (c : Nat) (x y : Int32) : Int32 := if c = 10009 then (if x = 0 then (if y = 0 then 0 else 1) else 1) else if c = 10010 then (if x = 0 then 0 else if y = 0 then 0 else 1) else if c = 10015 then x + y else if c = 10016 then x - y else if c = 10017 then x * y else if c = 10018 then (if y ≤ x then 0 else 1) else if x = y then 1 else 0
def P1 (g : Nat → Int32) (kF kO : Nat → Rs) (dp : Bool) (p : Nat) : Rs :=
  if cd g p < 10006 then (true, en g p, [cd g p], fun f => if cd g p < 10000 then nI (cd g p) else f (cd g p - 10000))
  else if dp = true then nok p
  else if cd g p = 10016 then rb (kO (en g p)) (fun q c v => (true, q, c ++ [10020], fun f => - v f))
  else if cd g p = 10012 then rb (kF (en g p)) (fun q c v => if cd g q = 10013 then (true, en g q, c, v) else nok q)
  else nok p
def PLp (g : Nat → Int32) (sub : Nat → Rs) (op : Nat → Bool) : Nat → Nat → List Nat → Vf → Rs
  | 0, p, c, v => (true, p, c, v)
  | m + 1, p, c, v => if op (cd g p) = true then rb (sub (en g p)) (fun q c' v' => PLp g sub op m q (c ++ c' ++ [cd g p]) (fun f => jn (cd g p) (v f) (v' f))) else (true, p, c, v)
def PBn (g : Nat → Int32) (sub : Nat → Rs) (op : Nat → Bool) (p : Nat) : Rs := rb (sub p) (fun q c v => PLp g sub op 160 q c v)
def oT (c : Nat) : Bool := decide (c = 10017)
def oS (c : Nat) : Bool := decide (c = 10015) || decide (c = 10016)
def oC (c : Nat) : Bool := decide (c = 10018) || decide (c = 10019)
def oA (c : Nat) : Bool := decide (c = 10010)
def oO (c : Nat) : Bool := decide (c = 10009)
def PC (g : Nat → Int32) (sub : Nat → Rs) (p : Nat) : Rs := rb (sub p) (fun q c v => if oC (cd g q) = true then rb (sub (en g q)) (fun q' c' v' => (true, q', c ++ c' ++ [cd g q], fun f => jn (cd g q) (v f) (v' f))) else (true, q, c, v))
def PN (g : Nat → Int32) (kN sub : Nat → Rs) (dp : Bool) (p : Nat) : Rs :=
  if cd g p = 10011 then (if dp = true then nok p else rb (kN (en g p)) (fun q c v => (true, q, c ++ [10011], fun f => if v f = 0 then 1 else 0))) else PC g sub p
def PSm (g : Nat → Int32) (kF kO : Nat → Rs) (dp : Bool) : Nat → Rs := PBn g (PBn g (P1 g kF kO dp) oT) oS
def PNt (g : Nat → Int32) (kF kN kO : Nat → Rs) (dp : Bool) : Nat → Rs := PN g kN (PSm g kF kO dp) dp
def PFm (g : Nat → Int32) (kF kN kO : Nat → Rs) (dp : Bool) : Nat → Rs := PBn g (PBn g (PNt g kF kN kO dp) oA) oO
def pz (g : Nat → Int32) : Nat → (Nat → Rs) × (Nat → Rs) × (Nat → Rs)
  | 0 => (PFm g nok nok nok true, PNt g nok nok nok true, P1 g nok nok true)
  | d + 1 => (PFm g (pz g d).1 (pz g d).2.1 (pz g d).2.2 false, PNt g (pz g d).1 (pz g d).2.1 (pz g d).2.2 false, P1 g (pz g d).1 (pz g d).2.2 false)
def PPt (g : Nat → Int32) (key p : Nat) : Rs := if cd g p = key then rb ((pz g 5).1 (en g p)) (fun q c v => if cd g q = 10014 then (true, en g q, c, v) else nok q) else nok p
/-! how far it goes -/
theorem rn_gt {P : Int32 → Bool} {g : Nat → Int32} {p : Nat} (h : P (g p) = true) : p < rn P g 160 p := by
  rw [rn, if_pos h]
  exact rn_ge 159 (p + 1)
theorem en_le {b : Nat → Nat} {sz p : Nat} (hp : p ≤ sz) : en (gB b sz) p ≤ sz := by
  have h := st_le (b := b) hp
  rw [en, enS]
  by_cases c : gB b sz (st (gB b sz) p) = -1
  · rw [if_pos c]; exact h
  rw [if_neg c]
  by_cases c2 : pL (gB b sz (st (gB b sz) p)) = true
  · rw [if_pos c2]; exact rn_sz pL_out 160 _ h
  rw [if_neg c2]
  by_cases c3 : pD (gB b sz (st (gB b sz) p)) = true
  · rw [if_pos c3]; exact rn_sz pD_out 160 _ h
  rw [if_neg c3]
  by_cases z : st (gB b sz) p < sz
  · omega
  · exact absurd (gB_out (by omega)) c
theorem en_gt {b : Nat → Nat} {sz p : Nat} (h : cd (gB b sz) p ≠ 10021) : p < en (gB b sz) p := by
  have h2 := st_ge (b := b) (sz := sz) (p := p)
  rw [cd, cdS] at h
  rw [en, enS]
  by_cases c : gB b sz (st (gB b sz) p) = -1
  · rw [if_pos c] at h; exact absurd rfl h
  rw [if_neg c]
  by_cases c2 : pL (gB b sz (st (gB b sz) p)) = true
  · rw [if_pos c2]; have := rn_gt (P := pL) c2; omega
  rw [if_neg c2]
  by_cases c3 : pD (gB b sz (st (gB b sz) p)) = true
  · rw [if_pos c3]; have := rn_gt (P := pD) c3; omega
  rw [if_neg c3]
  omega
theorem cd_end {b : Nat → Nat} {sz p : Nat} (h : sz ≤ p) : cd (gB b sz) p = 10021 := by
  have h2 := st_ge (b := b) (sz := sz) (p := p)
  rw [cd, cdS, if_pos (gB_out (by omega))]
def Wf (sz : Nat) (sub : Nat → Rs) : Prop := ∀ p, p ≤ sz → (sub p).2.1 ≤ sz ∧ ((sub p).1 = true → p + (sub p).2.2.1.length ≤ (sub p).2.1)
theorem nok_wf {sz p : Nat} (h : p ≤ sz) : (nok p).2.1 ≤ sz ∧ ((nok p).1 = true → p + (nok p).2.2.1.length ≤ (nok p).2.1) := ⟨h, fun z => by cases z⟩
theorem rb_wf {sz p0 p1 : Nat} {r : Rs} {k : Nat → List Nat → Vf → Rs} (h : r.2.1 ≤ sz ∧ (r.1 = true → p1 + r.2.2.1.length ≤ r.2.1)) (hk : ∀ q c v, q ≤ sz → p1 + c.length ≤ q → (k q c v).2.1 ≤ sz ∧ ((k q c v).1 = true → p0 + (k q c v).2.2.1.length ≤ (k q c v).2.1)) : (rb r k).2.1 ≤ sz ∧ ((rb r k).1 = true → p0 + (rb r k).2.2.1.length ≤ (rb r k).2.1) := by
  rw [rb]
  by_cases c : r.1 = true
  · rw [if_pos c]; exact hk _ _ _ h.1 (h.2 c)
  · rw [if_neg c]; exact ⟨h.1, fun z => by cases z⟩
theorem PLp_wf {b : Nat → Nat} {sz p0 : Nat} {sub : Nat → Rs} {op : Nat → Bool} (hop : op 10021 = false) (hs : Wf sz sub) : ∀ m p c v, p ≤ sz → p0 + c.length ≤ p → (PLp (gB b sz) sub op m p c v).2.1 ≤ sz ∧ ((PLp (gB b sz) sub op m p c v).1 = true → p0 + (PLp (gB b sz) sub op m p c v).2.2.1.length ≤ (PLp (gB b sz) sub op m p c v).2.1) := by
  intro m
  induction m with
  | zero => intro p c v hp hc; exact ⟨hp, fun _ => hc⟩
  | succ m ih =>
    intro p c v hp hc
    rw [PLp]
    by_cases h : op (cd (gB b sz) p) = true
    · rw [if_pos h]
      have hn : cd (gB b sz) p ≠ 10021 := fun z => by rw [z, hop] at h; cases h
      have h1 := en_gt hn
      refine rb_wf (hs _ (en_le hp)) fun q c' v' hq hc' => ih q _ _ hq ?_
      rw [List.length_append, List.length_append, List.length_singleton]
      omega
    · rw [if_neg h]; exact ⟨hp, fun _ => hc⟩
theorem PBn_wf {b : Nat → Nat} {sz : Nat} {sub : Nat → Rs} {op : Nat → Bool} (hop : op 10021 = false) (hs : Wf sz sub) : Wf sz (PBn (gB b sz) sub op) := fun p hp => rb_wf (hs p hp) fun q c v hq hc => PLp_wf hop hs 160 q c v hq hc
theorem P1_wf {b : Nat → Nat} {sz : Nat} {kF kO : Nat → Rs} {dp : Bool} (hF : Wf sz kF) (hO : Wf sz kO) : Wf sz (P1 (gB b sz) kF kO dp) := by
  intro p hp
  rw [P1]
  by_cases c1 : cd (gB b sz) p < 10006
  · rw [if_pos c1]; exact ⟨en_le hp, fun _ => en_gt (by omega)⟩
  rw [if_neg c1]
  by_cases c2 : dp = true
  · rw [if_pos c2]; exact nok_wf hp
  rw [if_neg c2]
  by_cases c3 : cd (gB b sz) p = 10016
  · rw [if_pos c3]
    have := en_gt (b := b) (sz := sz) (p := p) (by omega)
    refine rb_wf (hO _ (en_le hp)) fun q c v hq hc => ⟨hq, fun _ => ?_⟩
    show p + (c ++ [10020]).length ≤ q
    rw [List.length_append, List.length_singleton]
    omega
  rw [if_neg c3]
  by_cases c4 : cd (gB b sz) p = 10012
  · rw [if_pos c4]
    have := en_gt (b := b) (sz := sz) (p := p) (by omega)
    refine rb_wf (hF _ (en_le hp)) fun q c v hq hc => ?_
    by_cases c5 : cd (gB b sz) q = 10013
    · rw [if_pos c5]
      have := en_gt (b := b) (sz := sz) (p := q) (by omega)
      exact ⟨en_le hq, fun _ => by show p + c.length ≤ en (gB b sz) q; omega⟩
    · rw [if_neg c5]; exact ⟨hq, fun z => by cases z⟩
  · rw [if_neg c4]; exact nok_wf hp
theorem PC_wf {b : Nat → Nat} {sz : Nat} {sub : Nat → Rs} (hs : Wf sz sub) : Wf sz (PC (gB b sz) sub) := by
  intro p hp
  refine rb_wf (hs p hp) fun q c v hq hc => ?_
  by_cases h : oC (cd (gB b sz) q) = true
  · rw [if_pos h]
    have := en_gt (b := b) (sz := sz) (p := q) (fun z => by rw [z] at h; cases h)
    refine rb_wf (hs _ (en_le hq)) fun q' c' v' hq' hc' => ⟨hq', fun _ => ?_⟩
    show p + (c ++ c' ++ [cd (gB b sz) q]).length ≤ q'
    rw [List.length_append, List.length_append, List.length_singleton]
    omega
  · rw [if_neg h]; exact ⟨hq, fun _ => hc⟩
theorem PN_wf {b : Nat → Nat} {sz : Nat} {kN sub : Nat → Rs} {dp : Bool} (hN : Wf sz kN) (hs : Wf sz sub) : Wf sz (PN (gB b sz) kN sub dp) := by
  intro p hp
  rw [PN]
  by_cases c1 : cd (gB b sz) p = 10011
  · rw [if_pos c1]
    by_cases c2 : dp = true
    · rw [if_pos c2]; exact nok_wf hp
    · rw [if_neg c2]
      have := en_gt (b := b) (sz := sz) (p := p) (by omega)
      refine rb_wf (hN _ (en_le hp)) fun q c v hq hc => ⟨hq, fun _ => ?_⟩
      show p + (c ++ [10011]).length ≤ q
      rw [List.length_append, List.length_singleton]
      omega
  · rw [if_neg c1]; exact PC_wf hs p hp
theorem nok_Wf {sz : Nat} : Wf sz nok := fun _ hp => nok_wf hp
theorem PSm_wf {b : Nat → Nat} {sz : Nat} {kF kO : Nat → Rs} {dp : Bool} (hF : Wf sz kF) (hO : Wf sz kO) : Wf sz (PSm (gB b sz) kF kO dp) := PBn_wf rfl (PBn_wf rfl (P1_wf hF hO))
theorem PNt_wf {b : Nat → Nat} {sz : Nat} {kF kN kO : Nat → Rs} {dp : Bool} (hF : Wf sz kF) (hN : Wf sz kN) (hO : Wf sz kO) : Wf sz (PNt (gB b sz) kF kN kO dp) := PN_wf hN (PSm_wf hF hO)
theorem PFm_wf {b : Nat → Nat} {sz : Nat} {kF kN kO : Nat → Rs} {dp : Bool} (hF : Wf sz kF) (hN : Wf sz kN) (hO : Wf sz kO) : Wf sz (PFm (gB b sz) kF kN kO dp) := PBn_wf rfl (PBn_wf rfl (PNt_wf hF hN hO))
theorem pz_wf {b : Nat → Nat} {sz : Nat} : ∀ d, Wf sz (pz (gB b sz) d).1 ∧ Wf sz (pz (gB b sz) d).2.1 ∧ Wf sz (pz (gB b sz) d).2.2 := by
  intro d
  induction d with
  | zero => exact ⟨PFm_wf nok_Wf nok_Wf nok_Wf, PNt_wf nok_Wf nok_Wf nok_Wf, P1_wf nok_Wf nok_Wf⟩
  | succ d ih => exact ⟨PFm_wf ih.1 ih.2.1 ih.2.2, PNt_wf ih.1 ih.2.1 ih.2.2, P1_wf ih.1 ih.2.2⟩
theorem PPt_wf {b : Nat → Nat} {sz key p : Nat} (hp : p ≤ sz) (hk : key ≠ 10021) : (PPt (gB b sz) key p).2.1 ≤ sz ∧ ((PPt (gB b sz) key p).1 = true → p + (PPt (gB b sz) key p).2.2.1.length ≤ (PPt (gB b sz) key p).2.1) := by
  rw [PPt]
  by_cases c1 : cd (gB b sz) p = key
  · rw [if_pos c1]
    have := en_gt (b := b) (sz := sz) (p := p) (by omega)
    refine rb_wf ((pz_wf 5).1 _ (en_le hp)) fun q c v hq hc => ?_
    by_cases c5 : cd (gB b sz) q = 10014
    · rw [if_pos c5]
      have := en_gt (b := b) (sz := sz) (p := q) (by omega)
      exact ⟨en_le hq, fun _ => by show p + c.length ≤ en (gB b sz) q; omega⟩
    · rw [if_neg c5]; exact ⟨hq, fun z => by cases z⟩
  · rw [if_neg c1]; exact nok_wf hp
