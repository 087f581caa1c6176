abbrev vwCl : List vw_C := [(RX0, TX0, 5), (RX1, TX1, 3), (RX2, TX2, 5), (RX3, TX3, 3), (RX4, TX4, 7), (RX5, TX5, 2), (RX6, TX6, 5), (RX8, TX8, 20), (RX9, TX9, 45)]
/-! THE ABSTRACT HEAP: objects and rows by small numbers (ids); what they hold; the rows of the machine over it -/
abbrev HS : Type := (Nat → Nat → Int32) × (Nat → Nat → Int64) × (Nat → Nat → Option Nat)
def gI (σ : HS) (i k : Nat) : Int32 := σ.1 i k
def gJ (σ : HS) (i k : Nat) : Int64 := σ.2.1 i k
def gR (σ : HS) (i k : Nat) : Option Nat := σ.2.2 i k
def u2 {α : Type} (f : Nat → Nat → α) (i k : Nat) (v : α) : Nat → Nat → α := fun j n => if j = i ∧ n = k then v else f j n
def sI (σ : HS) (i k : Nat) (v : Int32) : HS := (u2 σ.1 i k v, σ.2.1, σ.2.2)
def sJ (σ : HS) (i k : Nat) (v : Int64) : HS := (σ.1, u2 σ.2.1 i k v, σ.2.2)
def sR (σ : HS) (i k : Nat) (v : Option Nat) : HS := (σ.1, σ.2.1, u2 σ.2.2 i k v)
/-- a whole row of ints at once -/
def sA (σ : HS) (i : Nat) (f : Nat → Int32) : HS := (fun j n => if j = i then f n else σ.1 j n, σ.2.1, σ.2.2)
theorem gI_sI (σ : HS) (i k : Nat) (v : Int32) (j n : Nat) : gI (sI σ i k v) j n = if j = i ∧ n = k then v else gI σ j n := rfl
theorem gI_sJ (σ : HS) (i k : Nat) (v : Int64) (j n : Nat) : gI (sJ σ i k v) j n = gI σ j n := rfl
theorem gI_sR (σ : HS) (i k : Nat) (v : Option Nat) (j n : Nat) : gI (sR σ i k v) j n = gI σ j n := rfl
theorem gI_sA (σ : HS) (i : Nat) (f : Nat → Int32) (j n : Nat) : gI (sA σ i f) j n = if j = i then f n else gI σ j n := rfl
theorem gJ_sI (σ : HS) (i k : Nat) (v : Int32) (j n : Nat) : gJ (sI σ i k v) j n = gJ σ j n := rfl
theorem gJ_sJ (σ : HS) (i k : Nat) (v : Int64) (j n : Nat) : gJ (sJ σ i k v) j n = if j = i ∧ n = k then v else gJ σ j n := rfl
theorem gJ_sR (σ : HS) (i k : Nat) (v : Option Nat) (j n : Nat) : gJ (sR σ i k v) j n = gJ σ j n := rfl
theorem gJ_sA (σ : HS) (i : Nat) (f : Nat → Int32) (j n : Nat) : gJ (sA σ i f) j n = gJ σ j n := rfl
theorem gR_sI (σ : HS) (i k : Nat) (v : Int32) (j n : Nat) : gR (sI σ i k v) j n = gR σ j n := rfl
theorem gR_sJ (σ : HS) (i k : Nat) (v : Int64) (j n : Nat) : gR (sJ σ i k v) j n = gR σ j n := rfl
theorem gR_sR (σ : HS) (i k : Nat) (v : Option Nat) (j n : Nat) : gR (sR σ i k v) j n = if j = i ∧ n = k then v else gR σ j n := rfl
theorem gR_sA (σ : HS) (i : Nat) (f : Nat → Int32) (j n : Nat) : gR (sA σ i f) j n = gR σ j n := rfl
/-- an index: its place, and whether it is one -/
def ix (i : Int32) : Nat := i.toNatClampNeg
def inb (i : Int32) (n : Nat) : Bool := decide (¬ i < 0) && decide (i.toNatClampNeg < n)
theorem inb_vp {i : Int32} {n : Nat} (h : inb i n = true) : vp_in i n := by
  simp only [inb, Bool.and_eq_true, decide_eq_true_eq] at h
  rintro (q | q)
  · exact h.1 q
  · omega
/-- a reference by its id -/
def rv (ad : Nat → Nat) (r : Option Nat) : Value := va_rf (r.map ad)
theorem rv_n (ad : Nat → Nat) : rv ad none = .null := rfl
theorem rv_s (ad : Nat → Nat) (j : Nat) : rv ad (some j) = .ref (ad j) := rfl
/-- what the fields of each class are: 0 an int, 1 a long, 2 a reference, 3 + n the thing whose id is n more -/
def fcs : List (List Nat) := [[4, 0, 0, 0, 0], [0, 0, 4], [2, 2, 0, 0, 0], [4, 0, 0], [0, 0, 0, 0, 0, 0, 1], [4, 0], [4, 0, 5, 6, 0],
  [4, 0, 0, 6, 0, 0, 0, 10, 0, 11, 12, 14, 0, 15, 17, 18, 8, 19, 20, 21],
  [0, 4, 5, 0, 0, 6, 0, 7, 0, 0, 0, 0, 0, 0, 0, 0, 0, 1, 0, 0, 0, 0, 0, 0, 8, 9, 0, 0, 0, 0, 10, 11, 1, 1, 0, 0, 12, 0, 0, 0, 0, 13, 14, 15, 16]]
def fcd (c k : Nat) : Nat := (fcs.getD c []).getD k 0
def fval (ad : Nat → Nat) (σ : HS) (i k : Nat) (c : Nat) : Value := match c with
  | 0 => .int (gI σ i k)
  | 1 => .long (gJ σ i k)
  | 2 => rv ad (gR σ i k)
  | n + 3 => .ref (ad (i + n))
def fl (ad : Nat → Nat) (σ : HS) (i c : Nat) : List Value := (List.range (fcs.getD c []).length).map fun k => fval ad σ i k (fcd c k)
/-- the machine's side: field slots and classes; the array classes by kind; the address of an id; the ids that there are; cells beside them, as they are -/
abbrev WD : Type := va_G × (Nat → ClassId) × (Nat → Nat) × List Nat × va_W
/-- the layout: the kind of an id (below 9 a class, 9 ints, 10 longs, 11 booleans, 12 to 14 references), its length, the array kinds that there are -/
abbrev YD : Type := (Nat → Nat) × (Nat → Nat) × List (Nat × FieldType)
def arow (cA : Nat → ClassId) (ad : Nat → Nat) (Y : YD) (σ : HS) (i : Nat) : ClassId × vp_A := (cA (Y.1 i), Y.2.1 i, if Y.1 i = 10 then .inr (.inl (gJ σ i)) else if Y.1 i < 12 then .inl (gI σ i) else .inr (.inr (.inr (.inr (fun k => (gR σ i k).map ad)))))
def cont (cA : Nat → ClassId) (ad : Nat → Nat) (Y : YD) (σ : HS) (i : Nat) : va_E := if Y.1 i < 9 then .inr (Y.1 i, fl ad σ i (Y.1 i)) else .inl (arow cA ad Y σ i)
def wl (G : WD) (Y : YD) (σ : HS) : va_W := (G.2.2.2.1.map fun i => (G.2.2.1 i, cont G.2.1 G.2.2.1 Y σ i)) ++ G.2.2.2.2
/-- of what kind a reference in a place is -/
def rkd (c k : Nat) : Nat := if c = 12 then 1 else if c = 13 then 3 else if c = 14 then 6 else if c = 2 then (if k = 0 then 5 else 6) else 99
def wt (G : WD) (Y : YD) (σ : HS) : Prop := ∀ i, i ∈ G.2.2.2.1 → ∀ k j, gR σ i k = some j → j ∈ G.2.2.2.1 ∧ Y.1 j = rkd (Y.1 i) k
def wH (G : WD) (Y : YD) (A : Nat → Prop) (σ : HS) (H : Heap) : Prop := va_P G.1 vwCl (wl G Y σ) H ∧ va_D A (wl G Y σ) ∧ wt G Y σ
def wK (G : WD) (Y : YD) (U : State) : Prop := va_K G.1 vwCl (Y.2.2.map fun q => (G.2.1 q.1, q.2)) U
def Ob (G : WD) (Y : YD) (i c : Nat) : Prop := i ∈ G.2.2.2.1 ∧ Y.1 i = c
def wA (G : WD) (sz : Nat) : Nat → Prop := fun q => (∃ i, i ∈ G.2.2.2.1 ∧ q = G.2.2.1 i) ∨ (∃ x, x ∈ G.2.2.2.2 ∧ q = x.1) ∨ sz ≤ q
theorem wl_at {G : WD} {Y : YD} {σ : HS} {i : Nat} (h : i ∈ G.2.2.2.1) : ∃ q : Nat, (wl G Y σ)[q]? = some (G.2.2.1 i, cont G.2.1 G.2.2.1 Y σ i) :=
  List.getElem?_of_mem (List.mem_append_left _ (List.mem_map.mpr ⟨i, h, rfl⟩))
theorem wl_of {G : WD} {Y : YD} {σ : HS} {q : Nat} {x : Nat × va_E} (h : (wl G Y σ)[q]? = some x) : (∃ i, i ∈ G.2.2.2.1 ∧ G.2.2.2.1[q]? = some i ∧ x = (G.2.2.1 i, cont G.2.1 G.2.2.1 Y σ i)) ∨ (G.2.2.2.1.length ≤ q ∧ x ∈ G.2.2.2.2) := by
  by_cases hq : q < G.2.2.2.1.length
  · left
    rw [wl, List.getElem?_append_left (by rw [List.length_map]; exact hq), List.getElem?_map] at h
    cases hi : G.2.2.2.1[q]? with
    | none => rw [hi] at h; cases h
    | some i => rw [hi] at h; exact ⟨i, List.mem_of_getElem? hi, rfl, (Option.some.inj h).symm⟩
  · right
    rw [wl, List.getElem?_append_right (by rw [List.length_map]; omega)] at h
    exact ⟨by omega, List.mem_of_getElem? h⟩
theorem wl_in {G : WD} {Y : YD} {σ : HS} {A : Nat → Prop} (hD : va_D A (wl G Y σ)) {i : Nat} (h : i ∈ G.2.2.2.1) : A (G.2.2.1 i) := by
  obtain ⟨q, hq⟩ := wl_at (Y := Y) (σ := σ) h
  exact hD.2 q _ hq
theorem wl_ix {G : WD} {Y : YD} {σ : HS} {q i : Nat} (h : G.2.2.2.1[q]? = some i) : (wl G Y σ)[q]? = some (G.2.2.1 i, cont G.2.1 G.2.2.1 Y σ i) := by
  rw [wl, List.getElem?_append_left (by rw [List.length_map]; exact (List.getElem?_eq_some_iff.mp h).1), List.getElem?_map, h]
  rfl
theorem fl_at {ad : Nat → Nat} {σ : HS} {i c k : Nat} (hk : k < (fcs.getD c []).length) : (fl ad σ i c)[k]? = some (fval ad σ i k (fcd c k)) := by
  rw [fl, List.getElem?_map, List.getElem?_range hk]
  rfl
theorem fl_len {ad : Nat → Nat} {σ : HS} {i c : Nat} : (fl ad σ i c).length = (fcs.getD c []).length := by simp [fl]
theorem cont_obj {cA : Nat → ClassId} {ad : Nat → Nat} {Y : YD} {σ : HS} {i c : Nat} (h : Y.1 i = c) (hc : c < 9) : cont cA ad Y σ i = .inr (c, fl ad σ i c) := by
  rw [cont, if_pos (by omega), h]
theorem cont_int {cA : Nat → ClassId} {ad : Nat → Nat} {Y : YD} {σ : HS} {i c : Nat} (h : Y.1 i = c) (hc : c = 9 ∨ c = 11) : cont cA ad Y σ i = .inl (cA c, Y.2.1 i, .inl (gI σ i)) := by
  rw [cont, if_neg (by omega), arow, if_neg (by omega), if_pos (by omega), h]
theorem cont_long {cA : Nat → ClassId} {ad : Nat → Nat} {Y : YD} {σ : HS} {i : Nat} (h : Y.1 i = 10) : cont cA ad Y σ i = .inl (cA 10, Y.2.1 i, .inr (.inl (gJ σ i))) := by
  rw [cont, if_neg (by omega), arow, if_pos h, h]
theorem cont_ref {cA : Nat → ClassId} {ad : Nat → Nat} {Y : YD} {σ : HS} {i c : Nat} (h : Y.1 i = c) (hc : 12 ≤ c) : cont cA ad Y σ i = .inl (cA c, Y.2.1 i, .inr (.inr (.inr (.inr (fun k => (gR σ i k).map ad))))) := by
  rw [cont, if_neg (by omega), arow, if_neg (by omega), if_neg (by omega), h]
/-- two states that agree on an id have the same cell there -/
theorem cont_same {cA : Nat → ClassId} {ad : Nat → Nat} {Y : YD} {σ τ : HS} {i : Nat} (hI : τ.1 i = σ.1 i) (hJ : τ.2.1 i = σ.2.1 i) (hR : τ.2.2 i = σ.2.2 i) : cont cA ad Y τ i = cont cA ad Y σ i := by
  have eI : gI τ i = gI σ i := hI
  have eJ : gJ τ i = gJ σ i := hJ
  have eR : gR τ i = gR σ i := hR
  have ef : fl ad τ i (Y.1 i) = fl ad σ i (Y.1 i) := by
    unfold fl
    congr 1
    funext k
    unfold fval
    rw [eI, eJ, eR]
  simp only [cont, ef, arow, eI, eJ, eR]
/-- a write: the list with one cell set is the list of the new state -/
theorem wl_set {G : WD} {Y : YD} {σ τ : HS} {A : Nat → Prop} {i q : Nat} (hD : va_D A (wl G Y σ)) (hi : i ∈ G.2.2.2.1) (hq : (wl G Y σ)[q]? = some (G.2.2.1 i, cont G.2.1 G.2.2.1 Y σ i)) (hs : ∀ j, j ≠ i → τ.1 j = σ.1 j ∧ τ.2.1 j = σ.2.1 j ∧ τ.2.2 j = σ.2.2 j) : (wl G Y σ).set q (G.2.2.1 i, cont G.2.1 G.2.2.1 Y τ i) = wl G Y τ := by
  have hl := (List.getElem?_eq_some_iff.mp hq).1
  obtain ⟨q2, hq2⟩ := List.getElem?_of_mem hi
  have e0 := hD.1 q2 q _ _ (wl_ix (Y := Y) (σ := σ) hq2) hq rfl
  subst e0
  refine List.ext_getElem? fun k => ?_
  by_cases hk : k = q2
  · subst hk
    rw [List.getElem?_set_self hl, wl_ix hq2]
  · rw [List.getElem?_set_ne (Ne.symm hk)]
    by_cases hkl : k < G.2.2.2.1.length
    · cases hj : G.2.2.2.1[k]? with
      | none =>
        rw [List.getElem?_eq_none_iff] at hj
        omega
      | some j =>
        rw [wl_ix hj, wl_ix hj]
        by_cases hji : j = i
        · subst hji
          exact absurd (hD.1 k q2 _ _ (wl_ix (Y := Y) (σ := σ) hj) hq rfl) hk
        · obtain ⟨s1, s2, s3⟩ := hs j hji
          rw [cont_same s1 s2 s3]
    · rw [wl, wl, List.getElem?_append_right (by rw [List.length_map]; omega), List.getElem?_append_right (by rw [List.length_map]; omega), List.length_map, List.length_map]
theorem u2_ne {α : Type} (f : Nat → Nat → α) (i k : Nat) (v : α) {j : Nat} (h : j ≠ i) : u2 f i k v j = f j := by
  funext n
  simp [u2, h]
theorem sI_ne (σ : HS) (i k : Nat) (v : Int32) (j : Nat) (h : j ≠ i) : (sI σ i k v).1 j = σ.1 j ∧ (sI σ i k v).2.1 j = σ.2.1 j ∧ (sI σ i k v).2.2 j = σ.2.2 j := ⟨u2_ne _ _ _ _ h, rfl, rfl⟩
theorem sJ_ne (σ : HS) (i k : Nat) (v : Int64) (j : Nat) (h : j ≠ i) : (sJ σ i k v).1 j = σ.1 j ∧ (sJ σ i k v).2.1 j = σ.2.1 j ∧ (sJ σ i k v).2.2 j = σ.2.2 j := ⟨rfl, u2_ne _ _ _ _ h, rfl⟩
theorem sR_ne (σ : HS) (i k : Nat) (v : Option Nat) (j : Nat) (h : j ≠ i) : (sR σ i k v).1 j = σ.1 j ∧ (sR σ i k v).2.1 j = σ.2.1 j ∧ (sR σ i k v).2.2 j = σ.2.2 j := ⟨rfl, rfl, u2_ne _ _ _ _ h⟩
theorem sA_ne (σ : HS) (i : Nat) (f : Nat → Int32) (j : Nat) (h : j ≠ i) : (sA σ i f).1 j = σ.1 j ∧ (sA σ i f).2.1 j = σ.2.1 j ∧ (sA σ i f).2.2 j = σ.2.2 j := ⟨by funext n; simp [sA, h], rfl, rfl⟩
theorem fl_set {ad : Nat → Nat} {σ τ : HS} {i c k : Nat} {v : Value} (hv : fval ad τ i k (fcd c k) = v) (ho : ∀ n, n ≠ k → fval ad τ i n (fcd c n) = fval ad σ i n (fcd c n)) : (fl ad σ i c).set k v = fl ad τ i c := by
  refine List.ext_getElem? fun n => ?_
  by_cases hn : n < (fcs.getD c []).length
  · rw [fl_at (σ := τ) hn]
    by_cases hk : n = k
    · subst hk
      rw [List.getElem?_set_self (by rw [fl_len]; exact hn), hv]
    · rw [List.getElem?_set_ne (Ne.symm hk), fl_at hn, ho n hk]
  · rw [List.getElem?_eq_none (by rw [List.length_set, fl_len]; omega), List.getElem?_eq_none (by rw [fl_len]; omega)]
theorem fval_sI {ad : Nat → Nat} {σ : HS} {i k n c : Nat} {v : Int32} (h : n ≠ k) : fval ad (sI σ i k v) i n c = fval ad σ i n c := by
  unfold fval
  have : gI (sI σ i k v) i n = gI σ i n := by simp [gI_sI, h]
  rw [this, gJ_sI, gR_sI]
theorem fval_sJ {ad : Nat → Nat} {σ : HS} {i k n c : Nat} {v : Int64} (h : n ≠ k) : fval ad (sJ σ i k v) i n c = fval ad σ i n c := by
  unfold fval
  have : gJ (sJ σ i k v) i n = gJ σ i n := by simp [gJ_sJ, h]
  rw [this, gI_sJ, gR_sJ]
theorem fval_sR {ad : Nat → Nat} {σ : HS} {i k n c : Nat} {v : Option Nat} (h : n ≠ k) : fval ad (sR σ i k v) i n c = fval ad σ i n c := by
  unfold fval
  have : gR (sR σ i k v) i n = gR σ i n := by simp [gR_sR, h]
  rw [this, gI_sR, gJ_sR]
/-! THE WORDS OF THE PRINTED FUNCTIONS -/
def lt {α β : Type} (a : α) (f : α → β) : β := f a
def bi1 {γ : Type} (o : Option HS) (f : HS → Option γ) : Option γ := match o with
  | none => none
  | some a => f a
def bi2 {α γ : Type} (o : Option (α × HS)) (f : α → HS → Option γ) : Option γ := match o with
  | none => none
  | some a => f a.1 a.2
def mr {γ : Type} (o : Option Nat) (f : Nat → Option γ) : Option γ := match o with
  | none => none
  | some j => f j
def mo {γ : Type} (o : Option Nat) (a : Option γ) (f : Nat → Option γ) : Option γ := match o with
  | none => a
  | some j => f j
def irm (x y : Int32) : Int32 := x - x / y * y
def lrm (x y : Int64) : Int64 := x - x / y * y
def jxmax (x y : Int32) : Int32 := if x < y then y else x
def jxmin (x y : Int32) : Int32 := if y < x then y else x
def isz (v : Int32) : Bool := decide (v = 0) || decide (v = 1)
def cpo (sp dp n : Int32) (n0 n1 : Nat) : Bool := decide (¬ sp < 0) && (decide (¬ dp < 0) && (decide (¬ n < 0) && (decide (ix sp + ix n ≤ n0) && decide (ix dp + ix n ≤ n1))))
/-- how often a loop may go round in a printed function -/
def FU : Nat := 6000
theorem ld {α β : Type} {a : α} {f : α → Option β} {x : β} (h : lt a f = some x) : ∃ b, a = b ∧ f b = some x := ⟨a, rfl, h⟩
theorem bd1 {γ : Type} {o : Option HS} {f : HS → Option γ} {x : γ} (h : bi1 o f = some x) : ∃ a, o = some a ∧ f a = some x := by
  cases o with
  | none => cases h
  | some a => exact ⟨a, rfl, h⟩
theorem bd2 {α γ : Type} {o : Option (α × HS)} {f : α → HS → Option γ} {x : γ} (h : bi2 o f = some x) : ∃ a b, o = some (a, b) ∧ f a b = some x := by
  cases o with
  | none => cases h
  | some a => exact ⟨a.1, a.2, rfl, h⟩
theorem mrd {γ : Type} {o : Option Nat} {f : Nat → Option γ} {x : γ} (h : mr o f = some x) : ∃ j, o = some j ∧ f j = some x := by
  cases o with
  | none => cases h
  | some j => exact ⟨j, rfl, h⟩
theorem mo_n {γ : Type} {a : Option γ} {f : Nat → Option γ} {x : Option γ} (h : mo none a f = x) : a = x := h
theorem mo_s {γ : Type} {j : Nat} {a : Option γ} {f : Nat → Option γ} {x : Option γ} (h : mo (some j) a f = x) : f j = x := h
theorem nof {γ : Type} {x : γ} {P : Prop} (h : (none : Option γ) = some x) : P := by cases h
theorem gd {γ : Type} {c : Prop} [d : Decidable c] {a : Option γ} {x : γ} (h : (if c then a else none) = some x) : c ∧ a = some x := by
  by_cases hc : c
  · rw [if_pos hc] at h; exact ⟨hc, h⟩
  · rw [if_neg hc] at h; cases h
theorem gdn {γ : Type} {c : Prop} [d : Decidable c] {a : Option γ} {x : γ} (h : (if c then none else a) = some x) : ¬ c ∧ a = some x := by
  by_cases hc : c
  · rw [if_pos hc] at h; cases h
  · rw [if_neg hc] at h; exact ⟨hc, h⟩
theorem ift {γ : Type} {c : Prop} [d : Decidable c] {a b x : γ} (hc : c) (h : (if c then a else b) = x) : a = x := by rw [if_pos hc] at h; exact h
theorem ifn {γ : Type} {c : Prop} [d : Decidable c] {a b x : γ} (hc : ¬ c) (h : (if c then a else b) = x) : b = x := by rw [if_neg hc] at h; exact h
theorem isz_n {v : Int32} (h : isz v = true) : narrow .boolean (.int v) = .int v := by
  simp only [isz, Bool.or_eq_true, decide_eq_true_eq] at h
  rcases h with h | h <;> subst h <;> rfl
theorem cpo_s {sp dp n : Int32} {n0 n1 : Nat} (h : cpo sp dp n n0 n1 = true) : ¬ sp < 0 ∧ ¬ dp < 0 ∧ ¬ n < 0 ∧ ix sp + ix n ≤ n0 ∧ ix dp + ix n ≤ n1 := by
  simpa only [cpo, Bool.and_eq_true, decide_eq_true_eq] using h
theorem rv_cat (ad : Nat → Nat) (o : Option Nat) : (rv ad o).category = 1 := by cases o <;> rfl
/-! THE JUDGEMENT: in every heap that holds the state, with every locals that hold the list -/
/-- what stands fast in a method's activation -/
def Cx (EX : (Nat → Prop) → State → Heap → Prop) (D : va_G) (cA : Nat → ClassId) (Y : YD) (cc : ByteArray) (nL : Nat) (ret : Option FieldType) (own : String) (Ts : List Cond) (p : Program) (s : State) (m : MethodId) (args : Array Value) (meth : Method) (c : Code) (A : Nat → Prop) : Prop :=
  CallFix p m c cc nL s args Ts own ∧ meth.sig.returnType = ret ∧ meth.locks = false ∧ va_K D vwCl (Y.2.2.map fun q => (cA q.1, q.2)) s ∧ (∀ q, s.heap.size ≤ q → A q) ∧ EX A s s.heap
def V (p : Program) (l : Launch) (e : Env) (R : Room) (s : State) (m : MethodId) (args : Array Value) (below : List Frame) (meth : Method) (c : Code) (nL : Nat) (A : Nat → Prop) (G : WD) (Y : YD) (cells slots : Nat) (Q : State → Prop) (σ : HS) (pc : Nat) (L : List (Nat × Value)) (st : List Value) : Prop :=
  ∀ (H : Heap) (locs : List Loc) (ls : Array Slot), wH G Y A σ H → va_S A s.heap H locs → lv_has ls nL L → W p l e R s m args below meth c H locs cells slots Q (F0 m pc ls st)
section VR
variable {EX : (Nat → Prop) → State → Heap → Prop} {p : Program} {l : Launch} {e : Env} {R : Room} {s : State} {m : MethodId} {args : Array Value} {below : List Frame} {meth : Method} {c : Code} {nL : Nat} {A : Nat → Prop} {G : WD} {Y : YD} {cells slots : Nat} {Q : State → Prop} {σ : HS} {pc : Nat} {L L' : List (Nat × Value)} {st : List Value} {cc : ByteArray} {ret : Option FieldType} {own : String} {Ts : List Cond}
theorem V.sub (ks : List Nat) (h : lv_pick L ks = L') (k : V p l e R s m args below meth c nL A G Y cells slots Q σ pc L' st) : V p l e R s m args below meth c nL A G Y cells slots Q σ pc L st := fun H locs ls hW hS hl => k H locs ls hW hS (lv_sub hl ks h)
theorem V.eq {σ' : HS} (h : σ = σ') (k : V p l e R s m args below meth c nL A G Y cells slots Q σ' pc L st) : V p l e R s m args below meth c nL A G Y cells slots Q σ pc L st := h ▸ k
theorem v_iconst (hC : Cx EX G.1 G.2.1 Y cc nL ret own Ts p s m args meth c A) {n : Int} {v : Int32} (hdg : decode cc pc = .ok (.iconst n, 1)) (hv : Int32.ofInt n = v) (k : V p l e R s m args below meth c nL A G Y cells slots Q σ (pc + 1) L (.int v :: st)) : V p l e R s m args below meth c nL A G Y cells slots Q σ pc L (st) := fun H locs ls hW hS hl => lv_iconst hC.1.1 hC.1.2.1 hdg hv (k H locs ls hW hS hl)
theorem v_bipush (hC : Cx EX G.1 G.2.1 Y cc nL ret own Ts p s m args meth c A) {n : Int} {v : Int32} (hdg : decode cc pc = .ok (.bipush n, 2)) (hv : (Int8.ofInt n).toInt32 = v) (k : V p l e R s m args below meth c nL A G Y cells slots Q σ (pc + 2) L (.int v :: st)) : V p l e R s m args below meth c nL A G Y cells slots Q σ pc L (st) := fun H locs ls hW hS hl => lv_bipush hC.1.1 hC.1.2.1 hdg hv (k H locs ls hW hS hl)
theorem v_sipush (hC : Cx EX G.1 G.2.1 Y cc nL ret own Ts p s m args meth c A) {n : Int} {v : Int32} (hdg : decode cc pc = .ok (.sipush n, 3)) (hv : (Int16.ofInt n).toInt32 = v) (k : V p l e R s m args below meth c nL A G Y cells slots Q σ (pc + 3) L (.int v :: st)) : V p l e R s m args below meth c nL A G Y cells slots Q σ pc L (st) := fun H locs ls hW hS hl => lv_sipush hC.1.1 hC.1.2.1 hdg hv (k H locs ls hW hS hl)
theorem v_lconst (hC : Cx EX G.1 G.2.1 Y cc nL ret own Ts p s m args meth c A) {n : Fin 2} {v : Int64} (hdg : decode cc pc = .ok (.lconst n, 1)) (hv : Int64.ofNat (n : Nat) = v) (k : V p l e R s m args below meth c nL A G Y cells slots Q σ (pc + 1) L (.long v :: st)) : V p l e R s m args below meth c nL A G Y cells slots Q σ pc L (st) := fun H locs ls hW hS hl => lv_lconst hC.1.1 hC.1.2.1 hdg hv (k H locs ls hW hS hl)
theorem v_ldc (hC : Cx EX G.1 G.2.1 Y cc nL ret own Ts p s m args meth c A) {index : Nat} {v : Int32} (hw : Jvm.Cond.constant own index v ∈ Ts) (hdg : decode cc pc = .ok (.ldc index, 2)) (k : V p l e R s m args below meth c nL A G Y cells slots Q σ (pc + 2) L (.int v :: st)) : V p l e R s m args below meth c nL A G Y cells slots Q σ pc L (st) := fun H locs ls hW hS hl => lv_ldc hC.1.1 hC.1.2.1 hC.1.2.2.2.1 (hC.1.2.2.2.2 _ hw) hdg (k H locs ls hW hS hl)
theorem v_ldc2 (hC : Cx EX G.1 G.2.1 Y cc nL ret own Ts p s m args meth c A) {index : Nat} {v : Int64} (hw : Jvm.Cond.constantLong own index v ∈ Ts) (hdg : decode cc pc = .ok (.ldc2_w index, 3)) (k : V p l e R s m args below meth c nL A G Y cells slots Q σ (pc + 3) L (.long v :: st)) : V p l e R s m args below meth c nL A G Y cells slots Q σ pc L (st) := fun H locs ls hW hS hl => lv_ldc2 hC.1.1 hC.1.2.1 hC.1.2.2.2.1 (hC.1.2.2.2.2 _ hw) hdg (k H locs ls hW hS hl)
theorem v_iload_n (hC : Cx EX G.1 G.2.1 Y cc nL ret own Ts p s m args meth c A) {kf : Fin 4} {x : Int32} (hdg : decode cc pc = .ok (.iload_n kf, 1)) (q : Nat) (hl0 : L[q]? = some ((kf : Nat), .int x)) (k : V p l e R s m args below meth c nL A G Y cells slots Q σ (pc + 1) L (.int x :: st)) : V p l e R s m args below meth c nL A G Y cells slots Q σ pc L (st) := fun H locs ls hW hS hl => lv_iload_n hC.1.1 hC.1.2.1 hdg rfl (lv_at hl q hl0) (k H locs ls hW hS hl)
theorem v_iload (hC : Cx EX G.1 G.2.1 Y cc nL ret own Ts p s m args meth c A) {i : Nat} {x : Int32} (hdg : decode cc pc = .ok (.iload i, 2)) (q : Nat) (hl0 : L[q]? = some (i, .int x)) (k : V p l e R s m args below meth c nL A G Y cells slots Q σ (pc + 2) L (.int x :: st)) : V p l e R s m args below meth c nL A G Y cells slots Q σ pc L (st) := fun H locs ls hW hS hl => lv_iload hC.1.1 hC.1.2.1 hdg (lv_at hl q hl0) (k H locs ls hW hS hl)
theorem v_lload_n (hC : Cx EX G.1 G.2.1 Y cc nL ret own Ts p s m args meth c A) {kf : Fin 4} {x : Int64} (hdg : decode cc pc = .ok (.lload_n kf, 1)) (q : Nat) (hl0 : L[q]? = some ((kf : Nat), .long x)) (k : V p l e R s m args below meth c nL A G Y cells slots Q σ (pc + 1) L (.long x :: st)) : V p l e R s m args below meth c nL A G Y cells slots Q σ pc L (st) := fun H locs ls hW hS hl => lv_lload_n hC.1.1 hC.1.2.1 hdg rfl (lv_at hl q hl0) (k H locs ls hW hS hl)
theorem v_lload (hC : Cx EX G.1 G.2.1 Y cc nL ret own Ts p s m args meth c A) {i : Nat} {x : Int64} (hdg : decode cc pc = .ok (.lload i, 2)) (q : Nat) (hl0 : L[q]? = some (i, .long x)) (k : V p l e R s m args below meth c nL A G Y cells slots Q σ (pc + 2) L (.long x :: st)) : V p l e R s m args below meth c nL A G Y cells slots Q σ pc L (st) := fun H locs ls hW hS hl => lv_lload hC.1.1 hC.1.2.1 hdg (lv_at hl q hl0) (k H locs ls hW hS hl)
theorem v_aload_n (hC : Cx EX G.1 G.2.1 Y cc nL ret own Ts p s m args meth c A) {kf : Fin 4} {x : Nat} (hdg : decode cc pc = .ok (.aload_n kf, 1)) (q : Nat) (hl0 : L[q]? = some ((kf : Nat), .ref x)) (k : V p l e R s m args below meth c nL A G Y cells slots Q σ (pc + 1) L (.ref x :: st)) : V p l e R s m args below meth c nL A G Y cells slots Q σ pc L (st) := fun H locs ls hW hS hl => lv_aload_n hC.1.1 hC.1.2.1 hdg rfl (lv_at hl q hl0) (k H locs ls hW hS hl)
theorem v_aload (hC : Cx EX G.1 G.2.1 Y cc nL ret own Ts p s m args meth c A) {i : Nat} {x : Nat} (hdg : decode cc pc = .ok (.aload i, 2)) (q : Nat) (hl0 : L[q]? = some (i, .ref x)) (k : V p l e R s m args below meth c nL A G Y cells slots Q σ (pc + 2) L (.ref x :: st)) : V p l e R s m args below meth c nL A G Y cells slots Q σ pc L (st) := fun H locs ls hW hS hl => lv_aload hC.1.1 hC.1.2.1 hdg (lv_at hl q hl0) (k H locs ls hW hS hl)
theorem v_aload_nR (hC : Cx EX G.1 G.2.1 Y cc nL ret own Ts p s m args meth c A) {kf : Fin 4} {o : Option Nat} (hdg : decode cc pc = .ok (.aload_n kf, 1)) (q : Nat) (hl0 : L[q]? = some ((kf : Nat), rv G.2.2.1 o)) (k : V p l e R s m args below meth c nL A G Y cells slots Q σ (pc + 1) L (rv G.2.2.1 o :: st)) : V p l e R s m args below meth c nL A G Y cells slots Q σ pc L st := by
  cases o with
  | none => exact fun H locs ls hW hS hl => lv_aload_nN hC.1.1 hC.1.2.1 hdg rfl (lv_at hl q hl0) (k H locs ls hW hS hl)
  | some x => exact fun H locs ls hW hS hl => lv_aload_n hC.1.1 hC.1.2.1 hdg rfl (lv_at hl q hl0) (k H locs ls hW hS hl)
theorem v_aloadR (hC : Cx EX G.1 G.2.1 Y cc nL ret own Ts p s m args meth c A) {i : Nat} {o : Option Nat} (hdg : decode cc pc = .ok (.aload i, 2)) (q : Nat) (hl0 : L[q]? = some (i, rv G.2.2.1 o)) (k : V p l e R s m args below meth c nL A G Y cells slots Q σ (pc + 2) L (rv G.2.2.1 o :: st)) : V p l e R s m args below meth c nL A G Y cells slots Q σ pc L st := by
  cases o with
  | none => exact fun H locs ls hW hS hl => lv_aloadN hC.1.1 hC.1.2.1 hdg (lv_at hl q hl0) (k H locs ls hW hS hl)
  | some x => exact fun H locs ls hW hS hl => lv_aload hC.1.1 hC.1.2.1 hdg (lv_at hl q hl0) (k H locs ls hW hS hl)
theorem v_iadd (hC : Cx EX G.1 G.2.1 Y cc nL ret own Ts p s m args meth c A) {x y : Int32} (hdg : decode cc pc = .ok (.iadd, 1)) (k : V p l e R s m args below meth c nL A G Y cells slots Q σ (pc + 1) L (.int (x + y) :: st)) : V p l e R s m args below meth c nL A G Y cells slots Q σ pc L (.int y :: .int x :: st) := fun H locs ls hW hS hl => lv_iadd hC.1.1 hC.1.2.1 hdg (k H locs ls hW hS hl)
theorem v_isub (hC : Cx EX G.1 G.2.1 Y cc nL ret own Ts p s m args meth c A) {x y : Int32} (hdg : decode cc pc = .ok (.isub, 1)) (k : V p l e R s m args below meth c nL A G Y cells slots Q σ (pc + 1) L (.int (x - y) :: st)) : V p l e R s m args below meth c nL A G Y cells slots Q σ pc L (.int y :: .int x :: st) := fun H locs ls hW hS hl => lv_isub hC.1.1 hC.1.2.1 hdg (k H locs ls hW hS hl)
theorem v_imul (hC : Cx EX G.1 G.2.1 Y cc nL ret own Ts p s m args meth c A) {x y : Int32} (hdg : decode cc pc = .ok (.imul, 1)) (k : V p l e R s m args below meth c nL A G Y cells slots Q σ (pc + 1) L (.int (x * y) :: st)) : V p l e R s m args below meth c nL A G Y cells slots Q σ pc L (.int y :: .int x :: st) := fun H locs ls hW hS hl => lv_imul hC.1.1 hC.1.2.1 hdg (k H locs ls hW hS hl)
theorem v_iand (hC : Cx EX G.1 G.2.1 Y cc nL ret own Ts p s m args meth c A) {x y : Int32} (hdg : decode cc pc = .ok (.iand, 1)) (k : V p l e R s m args below meth c nL A G Y cells slots Q σ (pc + 1) L (.int (x &&& y) :: st)) : V p l e R s m args below meth c nL A G Y cells slots Q σ pc L (.int y :: .int x :: st) := fun H locs ls hW hS hl => lv_iand hC.1.1 hC.1.2.1 hdg (k H locs ls hW hS hl)
theorem v_ior (hC : Cx EX G.1 G.2.1 Y cc nL ret own Ts p s m args meth c A) {x y : Int32} (hdg : decode cc pc = .ok (.ior, 1)) (k : V p l e R s m args below meth c nL A G Y cells slots Q σ (pc + 1) L (.int (x ||| y) :: st)) : V p l e R s m args below meth c nL A G Y cells slots Q σ pc L (.int y :: .int x :: st) := fun H locs ls hW hS hl => lv_ior hC.1.1 hC.1.2.1 hdg (k H locs ls hW hS hl)
theorem v_ishl (hC : Cx EX G.1 G.2.1 Y cc nL ret own Ts p s m args meth c A) {x y : Int32} (hdg : decode cc pc = .ok (.ishl, 1)) (k : V p l e R s m args below meth c nL A G Y cells slots Q σ (pc + 1) L (.int (x <<< (y &&& 31)) :: st)) : V p l e R s m args below meth c nL A G Y cells slots Q σ pc L (.int y :: .int x :: st) := fun H locs ls hW hS hl => lv_ishl hC.1.1 hC.1.2.1 hdg (k H locs ls hW hS hl)
theorem v_ishr (hC : Cx EX G.1 G.2.1 Y cc nL ret own Ts p s m args meth c A) {x y : Int32} (hdg : decode cc pc = .ok (.ishr, 1)) (k : V p l e R s m args below meth c nL A G Y cells slots Q σ (pc + 1) L (.int (x >>> (y &&& 31)) :: st)) : V p l e R s m args below meth c nL A G Y cells slots Q σ pc L (.int y :: .int x :: st) := fun H locs ls hW hS hl => lv_ishr hC.1.1 hC.1.2.1 hdg (k H locs ls hW hS hl)
theorem v_ladd (hC : Cx EX G.1 G.2.1 Y cc nL ret own Ts p s m args meth c A) {x y : Int64} (hdg : decode cc pc = .ok (.ladd, 1)) (k : V p l e R s m args below meth c nL A G Y cells slots Q σ (pc + 1) L (.long (x + y) :: st)) : V p l e R s m args below meth c nL A G Y cells slots Q σ pc L (.long y :: .long x :: st) := fun H locs ls hW hS hl => lv_ladd hC.1.1 hC.1.2.1 hdg (k H locs ls hW hS hl)
theorem v_lsub (hC : Cx EX G.1 G.2.1 Y cc nL ret own Ts p s m args meth c A) {x y : Int64} (hdg : decode cc pc = .ok (.lsub, 1)) (k : V p l e R s m args below meth c nL A G Y cells slots Q σ (pc + 1) L (.long (x - y) :: st)) : V p l e R s m args below meth c nL A G Y cells slots Q σ pc L (.long y :: .long x :: st) := fun H locs ls hW hS hl => lv_lsub hC.1.1 hC.1.2.1 hdg (k H locs ls hW hS hl)
theorem v_lmul (hC : Cx EX G.1 G.2.1 Y cc nL ret own Ts p s m args meth c A) {x y : Int64} (hdg : decode cc pc = .ok (.lmul, 1)) (k : V p l e R s m args below meth c nL A G Y cells slots Q σ (pc + 1) L (.long (x * y) :: st)) : V p l e R s m args below meth c nL A G Y cells slots Q σ pc L (.long y :: .long x :: st) := fun H locs ls hW hS hl => lv_lmul hC.1.1 hC.1.2.1 hdg (k H locs ls hW hS hl)
theorem v_land (hC : Cx EX G.1 G.2.1 Y cc nL ret own Ts p s m args meth c A) {x y : Int64} (hdg : decode cc pc = .ok (.land, 1)) (k : V p l e R s m args below meth c nL A G Y cells slots Q σ (pc + 1) L (.long (x &&& y) :: st)) : V p l e R s m args below meth c nL A G Y cells slots Q σ pc L (.long y :: .long x :: st) := fun H locs ls hW hS hl => lv_land hC.1.1 hC.1.2.1 hdg (k H locs ls hW hS hl)
theorem v_lor (hC : Cx EX G.1 G.2.1 Y cc nL ret own Ts p s m args meth c A) {x y : Int64} (hdg : decode cc pc = .ok (.lor, 1)) (k : V p l e R s m args below meth c nL A G Y cells slots Q σ (pc + 1) L (.long (x ||| y) :: st)) : V p l e R s m args below meth c nL A G Y cells slots Q σ pc L (.long y :: .long x :: st) := fun H locs ls hW hS hl => lv_lor hC.1.1 hC.1.2.1 hdg (k H locs ls hW hS hl)
theorem v_ineg (hC : Cx EX G.1 G.2.1 Y cc nL ret own Ts p s m args meth c A) {x : Int32} (hdg : decode cc pc = .ok (.ineg, 1)) (k : V p l e R s m args below meth c nL A G Y cells slots Q σ (pc + 1) L (.int (-x) :: st)) : V p l e R s m args below meth c nL A G Y cells slots Q σ pc L (.int x :: st) := fun H locs ls hW hS hl => lv_ineg hC.1.1 hC.1.2.1 hdg (k H locs ls hW hS hl)
theorem v_irem (hC : Cx EX G.1 G.2.1 Y cc nL ret own Ts p s m args meth c A) {x y : Int32} (hdg : decode cc pc = .ok (.irem, 1)) (hne : ¬ y = 0) (k : V p l e R s m args below meth c nL A G Y cells slots Q σ (pc + 1) L (.int (irm x y) :: st)) : V p l e R s m args below meth c nL A G Y cells slots Q σ pc L (.int y :: .int x :: st) := fun H locs ls hW hS hl => lv_irem hC.1.1 hC.1.2.1 hdg hne (k H locs ls hW hS hl)
theorem v_ldiv (hC : Cx EX G.1 G.2.1 Y cc nL ret own Ts p s m args meth c A) {x y : Int64} (hdg : decode cc pc = .ok (.ldiv, 1)) (hne : ¬ y = 0) (k : V p l e R s m args below meth c nL A G Y cells slots Q σ (pc + 1) L (.long (x / y) :: st)) : V p l e R s m args below meth c nL A G Y cells slots Q σ pc L (.long y :: .long x :: st) := fun H locs ls hW hS hl => lv_ldiv hC.1.1 hC.1.2.1 hdg hne (k H locs ls hW hS hl)
theorem v_lrem (hC : Cx EX G.1 G.2.1 Y cc nL ret own Ts p s m args meth c A) {x y : Int64} (hdg : decode cc pc = .ok (.lrem, 1)) (hne : ¬ y = 0) (k : V p l e R s m args below meth c nL A G Y cells slots Q σ (pc + 1) L (.long (lrm x y) :: st)) : V p l e R s m args below meth c nL A G Y cells slots Q σ pc L (.long y :: .long x :: st) := fun H locs ls hW hS hl => lv_lrem hC.1.1 hC.1.2.1 hdg hne (k H locs ls hW hS hl)
theorem v_lshl (hC : Cx EX G.1 G.2.1 Y cc nL ret own Ts p s m args meth c A) {x : Int64} {y : Int32} (hdg : decode cc pc = .ok (.lshl, 1)) (k : V p l e R s m args below meth c nL A G Y cells slots Q σ (pc + 1) L (.long (x <<< (y.toInt64 &&& 63)) :: st)) : V p l e R s m args below meth c nL A G Y cells slots Q σ pc L (.int y :: .long x :: st) := fun H locs ls hW hS hl => lv_lshl hC.1.1 hC.1.2.1 hdg rfl (k H locs ls hW hS hl)
theorem v_lshr (hC : Cx EX G.1 G.2.1 Y cc nL ret own Ts p s m args meth c A) {x : Int64} {y : Int32} (hdg : decode cc pc = .ok (.lshr, 1)) (k : V p l e R s m args below meth c nL A G Y cells slots Q σ (pc + 1) L (.long (x >>> (y.toInt64 &&& 63)) :: st)) : V p l e R s m args below meth c nL A G Y cells slots Q σ pc L (.int y :: .long x :: st) := fun H locs ls hW hS hl => lv_lshr hC.1.1 hC.1.2.1 hdg rfl (k H locs ls hW hS hl)
theorem v_lcmp (hC : Cx EX G.1 G.2.1 Y cc nL ret own Ts p s m args meth c A) {x y : Int64} (hdg : decode cc pc = .ok (.lcmp, 1)) (k : V p l e R s m args below meth c nL A G Y cells slots Q σ (pc + 1) L (.int (lg_cmp x y) :: st)) : V p l e R s m args below meth c nL A G Y cells slots Q σ pc L (.long y :: .long x :: st) := fun H locs ls hW hS hl => W.lcmp hC.1.1 hC.1.2.1 hdg (k H locs ls hW hS hl)
theorem v_i2l (hC : Cx EX G.1 G.2.1 Y cc nL ret own Ts p s m args meth c A) {x : Int32} (hdg : decode cc pc = .ok (.i2l, 1)) (k : V p l e R s m args below meth c nL A G Y cells slots Q σ (pc + 1) L (.long x.toInt64 :: st)) : V p l e R s m args below meth c nL A G Y cells slots Q σ pc L (.int x :: st) := fun H locs ls hW hS hl => lv_i2l hC.1.1 hC.1.2.1 hdg rfl (k H locs ls hW hS hl)
theorem v_l2i (hC : Cx EX G.1 G.2.1 Y cc nL ret own Ts p s m args meth c A) {x : Int64} (hdg : decode cc pc = .ok (.l2i, 1)) (k : V p l e R s m args below meth c nL A G Y cells slots Q σ (pc + 1) L (.int x.toInt32 :: st)) : V p l e R s m args below meth c nL A G Y cells slots Q σ pc L (.long x :: st) := fun H locs ls hW hS hl => lv_l2i hC.1.1 hC.1.2.1 hdg rfl (k H locs ls hW hS hl)
theorem v_i2b (hC : Cx EX G.1 G.2.1 Y cc nL ret own Ts p s m args meth c A) {x : Int32} (hdg : decode cc pc = .ok (.i2b, 1)) (k : V p l e R s m args below meth c nL A G Y cells slots Q σ (pc + 1) L (.int x.toInt8.toInt32 :: st)) : V p l e R s m args below meth c nL A G Y cells slots Q σ pc L (.int x :: st) := fun H locs ls hW hS hl => lv_i2b hC.1.1 hC.1.2.1 hdg rfl (k H locs ls hW hS hl)
theorem v_i2s (hC : Cx EX G.1 G.2.1 Y cc nL ret own Ts p s m args meth c A) {x : Int32} (hdg : decode cc pc = .ok (.i2s, 1)) (k : V p l e R s m args below meth c nL A G Y cells slots Q σ (pc + 1) L (.int x.toInt16.toInt32 :: st)) : V p l e R s m args below meth c nL A G Y cells slots Q σ pc L (.int x :: st) := fun H locs ls hW hS hl => lv_i2s hC.1.1 hC.1.2.1 hdg rfl (k H locs ls hW hS hl)
theorem v_dup (hC : Cx EX G.1 G.2.1 Y cc nL ret own Ts p s m args meth c A) {va : Value} (hdg : decode cc pc = .ok (.dup, 1)) (hva : va.category = 1) (k : V p l e R s m args below meth c nL A G Y cells slots Q σ (pc + 1) L (va :: va :: st)) : V p l e R s m args below meth c nL A G Y cells slots Q σ pc L (va :: st) := fun H locs ls hW hS hl => lv_dup hC.1.1 hC.1.2.1 hdg hva (k H locs ls hW hS hl)
theorem v_pop (hC : Cx EX G.1 G.2.1 Y cc nL ret own Ts p s m args meth c A) {va : Value} (hdg : decode cc pc = .ok (.pop, 1)) (hva : va.category = 1) (k : V p l e R s m args below meth c nL A G Y cells slots Q σ (pc + 1) L (st)) : V p l e R s m args below meth c nL A G Y cells slots Q σ pc L (va :: st) := fun H locs ls hW hS hl => lv_pop hC.1.1 hC.1.2.1 hdg hva (k H locs ls hW hS hl)
theorem v_dup2 (hC : Cx EX G.1 G.2.1 Y cc nL ret own Ts p s m args meth c A) {va vb : Value} (hdg : decode cc pc = .ok (.dup2, 1)) (hva : va.category = 1) (hvb : vb.category = 1) (k : V p l e R s m args below meth c nL A G Y cells slots Q σ (pc + 1) L (va :: vb :: va :: vb :: st)) : V p l e R s m args below meth c nL A G Y cells slots Q σ pc L (va :: vb :: st) := fun H locs ls hW hS hl => lv_dup2_11 hC.1.1 hC.1.2.1 hdg hva hvb (k H locs ls hW hS hl)
theorem v_null (hC : Cx EX G.1 G.2.1 Y cc nL ret own Ts p s m args meth c A) (hdg : decode cc pc = .ok (.aconst_null, 1)) (k : V p l e R s m args below meth c nL A G Y cells slots Q σ (pc + 1) L (.null :: st)) : V p l e R s m args below meth c nL A G Y cells slots Q σ pc L (st) := fun H locs ls hW hS hl => lv_null hC.1.1 hC.1.2.1 hdg (k H locs ls hW hS hl)
theorem v_ifnull_f (hC : Cx EX G.1 G.2.1 Y cc nL ret own Ts p s m args meth c A) {x : Nat} {off : Int} (hdg : decode cc pc = .ok (.ifnull off, 3)) (k : V p l e R s m args below meth c nL A G Y cells slots Q σ (pc + 3) L (st)) : V p l e R s m args below meth c nL A G Y cells slots Q σ pc L (.ref x :: st) := fun H locs ls hW hS hl => lv_ifnull hC.1.1 hC.1.2.1 hdg (k H locs ls hW hS hl)
theorem v_ifnonnull_f (hC : Cx EX G.1 G.2.1 Y cc nL ret own Ts p s m args meth c A) {off : Int} (hdg : decode cc pc = .ok (.ifnonnull off, 3)) (k : V p l e R s m args below meth c nL A G Y cells slots Q σ (pc + 3) L (st)) : V p l e R s m args below meth c nL A G Y cells slots Q σ pc L (.null :: st) := fun H locs ls hW hS hl => lv_ifnonnullN hC.1.1 hC.1.2.1 hdg (k H locs ls hW hS hl)
theorem v_goto (hC : Cx EX G.1 G.2.1 Y cc nL ret own Ts p s m args meth c A) {off : Int} {tgt : Nat} (hdg : decode cc pc = .ok (.goto off, 3)) (ht : (pc : Int) + off = (tgt : Int)) (k : V p l e R s m args below meth c nL A G Y cells slots Q σ tgt L (st)) : V p l e R s m args below meth c nL A G Y cells slots Q σ pc L (st) := fun H locs ls hW hS hl => lv_goto hC.1.1 hC.1.2.1 hdg ht (k H locs ls hW hS hl)
theorem v_ifnull_t (hC : Cx EX G.1 G.2.1 Y cc nL ret own Ts p s m args meth c A) {off : Int} {tgt : Nat} (hdg : decode cc pc = .ok (.ifnull off, 3)) (ht : (pc : Int) + off = (tgt : Int)) (k : V p l e R s m args below meth c nL A G Y cells slots Q σ tgt L (st)) : V p l e R s m args below meth c nL A G Y cells slots Q σ pc L (.null :: st) := fun H locs ls hW hS hl => lv_ifnullN hC.1.1 hC.1.2.1 hdg ht (k H locs ls hW hS hl)
theorem v_ifnonnull_t (hC : Cx EX G.1 G.2.1 Y cc nL ret own Ts p s m args meth c A) {x : Nat} {off : Int} {tgt : Nat} (hdg : decode cc pc = .ok (.ifnonnull off, 3)) (ht : (pc : Int) + off = (tgt : Int)) (k : V p l e R s m args below meth c nL A G Y cells slots Q σ tgt L (st)) : V p l e R s m args below meth c nL A G Y cells slots Q σ pc L (.ref x :: st) := fun H locs ls hW hS hl => lv_ifnonnull hC.1.1 hC.1.2.1 hdg ht (k H locs ls hW hS hl)
theorem v_if_eq (hC : Cx EX G.1 G.2.1 Y cc nL ret own Ts p s m args meth c A) {x : Int32} {off : Int} {tgt : Nat} (hdg : decode cc pc = .ok (.ifCond .eq off, 3)) (ht : (pc : Int) + off = (tgt : Int)) (kt : x = 0 → V p l e R s m args below meth c nL A G Y cells slots Q σ tgt L st) (kf : ¬ x = 0 → V p l e R s m args below meth c nL A G Y cells slots Q σ (pc + 3) L st) : V p l e R s m args below meth c nL A G Y cells slots Q σ pc L (.int x :: st) := fun H locs ls hW hS hl => lv_if_eq hC.1.1 hC.1.2.1 hdg ht (fun h => kt h H locs ls hW hS hl) (fun h => kf h H locs ls hW hS hl)
theorem v_icmp_eq (hC : Cx EX G.1 G.2.1 Y cc nL ret own Ts p s m args meth c A) {x y : Int32} {off : Int} {tgt : Nat} (hdg : decode cc pc = .ok (.if_icmp .eq off, 3)) (ht : (pc : Int) + off = (tgt : Int)) (kt : x = y → V p l e R s m args below meth c nL A G Y cells slots Q σ tgt L st) (kf : ¬ x = y → V p l e R s m args below meth c nL A G Y cells slots Q σ (pc + 3) L st) : V p l e R s m args below meth c nL A G Y cells slots Q σ pc L (.int y :: .int x :: st) := fun H locs ls hW hS hl => lv_icmp_eq hC.1.1 hC.1.2.1 hdg ht (fun h => kt h H locs ls hW hS hl) (fun h => kf h H locs ls hW hS hl)
theorem v_if_ne (hC : Cx EX G.1 G.2.1 Y cc nL ret own Ts p s m args meth c A) {x : Int32} {off : Int} {tgt : Nat} (hdg : decode cc pc = .ok (.ifCond .ne off, 3)) (ht : (pc : Int) + off = (tgt : Int)) (kt : ¬ x = 0 → V p l e R s m args below meth c nL A G Y cells slots Q σ tgt L st) (kf : x = 0 → V p l e R s m args below meth c nL A G Y cells slots Q σ (pc + 3) L st) : V p l e R s m args below meth c nL A G Y cells slots Q σ pc L (.int x :: st) := fun H locs ls hW hS hl => lv_if_ne hC.1.1 hC.1.2.1 hdg ht (fun h => kt h H locs ls hW hS hl) (fun h => kf h H locs ls hW hS hl)
theorem v_icmp_ne (hC : Cx EX G.1 G.2.1 Y cc nL ret own Ts p s m args meth c A) {x y : Int32} {off : Int} {tgt : Nat} (hdg : decode cc pc = .ok (.if_icmp .ne off, 3)) (ht : (pc : Int) + off = (tgt : Int)) (kt : ¬ x = y → V p l e R s m args below meth c nL A G Y cells slots Q σ tgt L st) (kf : x = y → V p l e R s m args below meth c nL A G Y cells slots Q σ (pc + 3) L st) : V p l e R s m args below meth c nL A G Y cells slots Q σ pc L (.int y :: .int x :: st) := fun H locs ls hW hS hl => lv_icmp_ne hC.1.1 hC.1.2.1 hdg ht (fun h => kt h H locs ls hW hS hl) (fun h => kf h H locs ls hW hS hl)
theorem v_if_lt (hC : Cx EX G.1 G.2.1 Y cc nL ret own Ts p s m args meth c A) {x : Int32} {off : Int} {tgt : Nat} (hdg : decode cc pc = .ok (.ifCond .lt off, 3)) (ht : (pc : Int) + off = (tgt : Int)) (kt : x < 0 → V p l e R s m args below meth c nL A G Y cells slots Q σ tgt L st) (kf : ¬ x < 0 → V p l e R s m args below meth c nL A G Y cells slots Q σ (pc + 3) L st) : V p l e R s m args below meth c nL A G Y cells slots Q σ pc L (.int x :: st) := fun H locs ls hW hS hl => lv_if_lt hC.1.1 hC.1.2.1 hdg ht (fun h => kt h H locs ls hW hS hl) (fun h => kf h H locs ls hW hS hl)
theorem v_icmp_lt (hC : Cx EX G.1 G.2.1 Y cc nL ret own Ts p s m args meth c A) {x y : Int32} {off : Int} {tgt : Nat} (hdg : decode cc pc = .ok (.if_icmp .lt off, 3)) (ht : (pc : Int) + off = (tgt : Int)) (kt : x < y → V p l e R s m args below meth c nL A G Y cells slots Q σ tgt L st) (kf : ¬ x < y → V p l e R s m args below meth c nL A G Y cells slots Q σ (pc + 3) L st) : V p l e R s m args below meth c nL A G Y cells slots Q σ pc L (.int y :: .int x :: st) := fun H locs ls hW hS hl => lv_icmp_lt hC.1.1 hC.1.2.1 hdg ht (fun h => kt h H locs ls hW hS hl) (fun h => kf h H locs ls hW hS hl)
theorem v_if_ge (hC : Cx EX G.1 G.2.1 Y cc nL ret own Ts p s m args meth c A) {x : Int32} {off : Int} {tgt : Nat} (hdg : decode cc pc = .ok (.ifCond .ge off, 3)) (ht : (pc : Int) + off = (tgt : Int)) (kt : 0 ≤ x → V p l e R s m args below meth c nL A G Y cells slots Q σ tgt L st) (kf : ¬ 0 ≤ x → V p l e R s m args below meth c nL A G Y cells slots Q σ (pc + 3) L st) : V p l e R s m args below meth c nL A G Y cells slots Q σ pc L (.int x :: st) := fun H locs ls hW hS hl => lv_if_ge hC.1.1 hC.1.2.1 hdg ht (fun h => kt h H locs ls hW hS hl) (fun h => kf h H locs ls hW hS hl)
theorem v_icmp_ge (hC : Cx EX G.1 G.2.1 Y cc nL ret own Ts p s m args meth c A) {x y : Int32} {off : Int} {tgt : Nat} (hdg : decode cc pc = .ok (.if_icmp .ge off, 3)) (ht : (pc : Int) + off = (tgt : Int)) (kt : y ≤ x → V p l e R s m args below meth c nL A G Y cells slots Q σ tgt L st) (kf : ¬ y ≤ x → V p l e R s m args below meth c nL A G Y cells slots Q σ (pc + 3) L st) : V p l e R s m args below meth c nL A G Y cells slots Q σ pc L (.int y :: .int x :: st) := fun H locs ls hW hS hl => lv_icmp_ge hC.1.1 hC.1.2.1 hdg ht (fun h => kt h H locs ls hW hS hl) (fun h => kf h H locs ls hW hS hl)
theorem v_if_gt (hC : Cx EX G.1 G.2.1 Y cc nL ret own Ts p s m args meth c A) {x : Int32} {off : Int} {tgt : Nat} (hdg : decode cc pc = .ok (.ifCond .gt off, 3)) (ht : (pc : Int) + off = (tgt : Int)) (kt : 0 < x → V p l e R s m args below meth c nL A G Y cells slots Q σ tgt L st) (kf : ¬ 0 < x → V p l e R s m args below meth c nL A G Y cells slots Q σ (pc + 3) L st) : V p l e R s m args below meth c nL A G Y cells slots Q σ pc L (.int x :: st) := fun H locs ls hW hS hl => lv_if_gt hC.1.1 hC.1.2.1 hdg ht (fun h => kt h H locs ls hW hS hl) (fun h => kf h H locs ls hW hS hl)
theorem v_icmp_gt (hC : Cx EX G.1 G.2.1 Y cc nL ret own Ts p s m args meth c A) {x y : Int32} {off : Int} {tgt : Nat} (hdg : decode cc pc = .ok (.if_icmp .gt off, 3)) (ht : (pc : Int) + off = (tgt : Int)) (kt : y < x → V p l e R s m args below meth c nL A G Y cells slots Q σ tgt L st) (kf : ¬ y < x → V p l e R s m args below meth c nL A G Y cells slots Q σ (pc + 3) L st) : V p l e R s m args below meth c nL A G Y cells slots Q σ pc L (.int y :: .int x :: st) := fun H locs ls hW hS hl => lv_icmp_gt hC.1.1 hC.1.2.1 hdg ht (fun h => kt h H locs ls hW hS hl) (fun h => kf h H locs ls hW hS hl)
theorem v_if_le (hC : Cx EX G.1 G.2.1 Y cc nL ret own Ts p s m args meth c A) {x : Int32} {off : Int} {tgt : Nat} (hdg : decode cc pc = .ok (.ifCond .le off, 3)) (ht : (pc : Int) + off = (tgt : Int)) (kt : x ≤ 0 → V p l e R s m args below meth c nL A G Y cells slots Q σ tgt L st) (kf : ¬ x ≤ 0 → V p l e R s m args below meth c nL A G Y cells slots Q σ (pc + 3) L st) : V p l e R s m args below meth c nL A G Y cells slots Q σ pc L (.int x :: st) := fun H locs ls hW hS hl => lv_if_le hC.1.1 hC.1.2.1 hdg ht (fun h => kt h H locs ls hW hS hl) (fun h => kf h H locs ls hW hS hl)
theorem v_icmp_le (hC : Cx EX G.1 G.2.1 Y cc nL ret own Ts p s m args meth c A) {x y : Int32} {off : Int} {tgt : Nat} (hdg : decode cc pc = .ok (.if_icmp .le off, 3)) (ht : (pc : Int) + off = (tgt : Int)) (kt : x ≤ y → V p l e R s m args below meth c nL A G Y cells slots Q σ tgt L st) (kf : ¬ x ≤ y → V p l e R s m args below meth c nL A G Y cells slots Q σ (pc + 3) L st) : V p l e R s m args below meth c nL A G Y cells slots Q σ pc L (.int y :: .int x :: st) := fun H locs ls hW hS hl => lv_icmp_le hC.1.1 hC.1.2.1 hdg ht (fun h => kt h H locs ls hW hS hl) (fun h => kf h H locs ls hW hS hl)
theorem v_tableIn (hC : Cx EX G.1 G.2.1 Y cc nL ret own Ts p s m args meth c A) {dflt lo hi : Int} {offs : Array Int} {len : Nat} {x : Int32} {off : Int} {tgt : Nat} (hdg : decode cc pc = .ok (.tableswitch dflt lo hi offs, len)) (h1 : ¬ x.toInt < lo) (h2 : ¬ hi < x.toInt) (ho : offs[(x.toInt - lo).toNat]? = some off) (ht : (pc : Int) + off = (tgt : Int)) (k : V p l e R s m args below meth c nL A G Y cells slots Q σ tgt L st) : V p l e R s m args below meth c nL A G Y cells slots Q σ pc L (.int x :: st) := fun H locs ls hW hS hl => lv_tableIn hC.1.1 hC.1.2.1 hdg h1 h2 ho ht (k H locs ls hW hS hl)
theorem v_tableOut (hC : Cx EX G.1 G.2.1 Y cc nL ret own Ts p s m args meth c A) {dflt lo hi : Int} {offs : Array Int} {len : Nat} {x : Int32} {tgt : Nat} (hdg : decode cc pc = .ok (.tableswitch dflt lo hi offs, len)) (h : x.toInt < lo ∨ hi < x.toInt) (ht : (pc : Int) + dflt = (tgt : Int)) (k : V p l e R s m args below meth c nL A G Y cells slots Q σ tgt L st) : V p l e R s m args below meth c nL A G Y cells slots Q σ pc L (.int x :: st) := fun H locs ls hW hS hl => lv_tableOut hC.1.1 hC.1.2.1 hdg h ht (k H locs ls hW hS hl)
theorem v_lookup (hC : Cx EX G.1 G.2.1 Y cc nL ret own Ts p s m args meth c A) {dflt : Int} {ps : Array (Int × Int)} {len : Nat} {x : Int32} {off : Int} {tgt : Nat} (hdg : decode cc pc = .ok (.lookupswitch dflt ps, len)) (hp : (ps.toList.zip (ps.toList.drop 1)).all (fun (a, next) => a.1 < next.1) = true) (ho : Op.lookupswitch.offset ps.toList dflt x.toInt = off) (ht : (pc : Int) + off = (tgt : Int)) (k : V p l e R s m args below meth c nL A G Y cells slots Q σ tgt L st) : V p l e R s m args below meth c nL A G Y cells slots Q σ pc L (.int x :: st) := fun H locs ls hW hS hl => lv_lookup hC.1.1 hC.1.2.1 hdg hp ho ht (k H locs ls hW hS hl)
theorem v_istore_n (hC : Cx EX G.1 G.2.1 Y cc nL ret own Ts p s m args meth c A) {kf : Fin 4} {x : Int32} (hdg : decode cc pc = .ok (.istore_n kf, 1)) (hn : (kf : Nat) < nL) (ks : List Nat) (hp : lv_pick (((kf : Nat), Value.int x) :: L.filter (fun q => !(q.1 == (kf : Nat)) && !(q.1 + 1 == (kf : Nat) && q.2.category == 2))) ks = L') (k : V p l e R s m args below meth c nL A G Y cells slots Q σ (pc + 1) L' st) : V p l e R s m args below meth c nL A G Y cells slots Q σ pc L (.int x :: st) := fun H locs ls hW hS hl => lv_istore_n hC.1.1 hC.1.2.1 hdg rfl hl hn rfl (fun ls' hl' => k H locs ls' hW hS (lv_sub hl' ks hp))
theorem v_istore (hC : Cx EX G.1 G.2.1 Y cc nL ret own Ts p s m args meth c A) {i : Nat} {x : Int32} (hdg : decode cc pc = .ok (.istore i, 2)) (hn : i < nL) (ks : List Nat) (hp : lv_pick ((i, Value.int x) :: L.filter (fun q => !(q.1 == i) && !(q.1 + 1 == i && q.2.category == 2))) ks = L') (k : V p l e R s m args below meth c nL A G Y cells slots Q σ (pc + 2) L' st) : V p l e R s m args below meth c nL A G Y cells slots Q σ pc L (.int x :: st) := fun H locs ls hW hS hl => lv_istore hC.1.1 hC.1.2.1 hdg hl hn rfl (fun ls' hl' => k H locs ls' hW hS (lv_sub hl' ks hp))
theorem v_lstore_n (hC : Cx EX G.1 G.2.1 Y cc nL ret own Ts p s m args meth c A) {kf : Fin 4} {x : Int64} (hdg : decode cc pc = .ok (.lstore_n kf, 1)) (hn : (kf : Nat) + 1 < nL) (ks : List Nat) (hp : lv_pick (((kf : Nat), Value.long x) :: L.filter (fun q => !(q.1 == (kf : Nat)) && (!(q.1 == (kf : Nat) + 1) && !(q.1 + 1 == (kf : Nat) && q.2.category == 2)))) ks = L') (k : V p l e R s m args below meth c nL A G Y cells slots Q σ (pc + 1) L' st) : V p l e R s m args below meth c nL A G Y cells slots Q σ pc L (.long x :: st) := fun H locs ls hW hS hl => lv_lstore_n hC.1.1 hC.1.2.1 hdg rfl hl hn rfl (fun ls' hl' => k H locs ls' hW hS (lv_sub hl' ks hp))
theorem v_lstore (hC : Cx EX G.1 G.2.1 Y cc nL ret own Ts p s m args meth c A) {i : Nat} {x : Int64} (hdg : decode cc pc = .ok (.lstore i, 2)) (hn : i + 1 < nL) (ks : List Nat) (hp : lv_pick ((i, Value.long x) :: L.filter (fun q => !(q.1 == i) && (!(q.1 == i + 1) && !(q.1 + 1 == i && q.2.category == 2)))) ks = L') (k : V p l e R s m args below meth c nL A G Y cells slots Q σ (pc + 2) L' st) : V p l e R s m args below meth c nL A G Y cells slots Q σ pc L (.long x :: st) := fun H locs ls hW hS hl => lv_lstore hC.1.1 hC.1.2.1 hdg hl hn rfl (fun ls' hl' => k H locs ls' hW hS (lv_sub hl' ks hp))
theorem v_astore_n (hC : Cx EX G.1 G.2.1 Y cc nL ret own Ts p s m args meth c A) {kf : Fin 4} {x : Nat} (hdg : decode cc pc = .ok (.astore_n kf, 1)) (hn : (kf : Nat) < nL) (ks : List Nat) (hp : lv_pick (((kf : Nat), Value.ref x) :: L.filter (fun q => !(q.1 == (kf : Nat)) && !(q.1 + 1 == (kf : Nat) && q.2.category == 2))) ks = L') (k : V p l e R s m args below meth c nL A G Y cells slots Q σ (pc + 1) L' st) : V p l e R s m args below meth c nL A G Y cells slots Q σ pc L (.ref x :: st) := fun H locs ls hW hS hl => lv_astore_n hC.1.1 hC.1.2.1 hdg rfl hl hn rfl (fun ls' hl' => k H locs ls' hW hS (lv_sub hl' ks hp))
theorem v_astore (hC : Cx EX G.1 G.2.1 Y cc nL ret own Ts p s m args meth c A) {i : Nat} {x : Nat} (hdg : decode cc pc = .ok (.astore i, 2)) (hn : i < nL) (ks : List Nat) (hp : lv_pick ((i, Value.ref x) :: L.filter (fun q => !(q.1 == i) && !(q.1 + 1 == i && q.2.category == 2))) ks = L') (k : V p l e R s m args below meth c nL A G Y cells slots Q σ (pc + 2) L' st) : V p l e R s m args below meth c nL A G Y cells slots Q σ pc L (.ref x :: st) := fun H locs ls hW hS hl => lv_astore hC.1.1 hC.1.2.1 hdg hl hn rfl (fun ls' hl' => k H locs ls' hW hS (lv_sub hl' ks hp))
theorem v_astore_nR (hC : Cx EX G.1 G.2.1 Y cc nL ret own Ts p s m args meth c A) {kf : Fin 4} {o : Option Nat} (hdg : decode cc pc = .ok (.astore_n kf, 1)) (hn : (kf : Nat) < nL) (ks : List Nat) (hp : lv_pick (((kf : Nat), rv G.2.2.1 o) :: L.filter (fun q => !(q.1 == (kf : Nat)) && !(q.1 + 1 == (kf : Nat) && q.2.category == 2))) ks = L') (k : V p l e R s m args below meth c nL A G Y cells slots Q σ (pc + 1) L' st) : V p l e R s m args below meth c nL A G Y cells slots Q σ pc L (rv G.2.2.1 o :: st) := by
  cases o with
  | none => exact fun H locs ls hW hS hl => lv_astore_nN hC.1.1 hC.1.2.1 hdg rfl hl hn rfl (fun ls' hl' => k H locs ls' hW hS (lv_sub hl' ks hp))
  | some x => exact fun H locs ls hW hS hl => lv_astore_n hC.1.1 hC.1.2.1 hdg rfl hl hn rfl (fun ls' hl' => k H locs ls' hW hS (lv_sub hl' ks hp))
theorem v_astoreR (hC : Cx EX G.1 G.2.1 Y cc nL ret own Ts p s m args meth c A) {i : Nat} {o : Option Nat} (hdg : decode cc pc = .ok (.astore i, 2)) (hn : i < nL) (ks : List Nat) (hp : lv_pick ((i, rv G.2.2.1 o) :: L.filter (fun q => !(q.1 == i) && !(q.1 + 1 == i && q.2.category == 2))) ks = L') (k : V p l e R s m args below meth c nL A G Y cells slots Q σ (pc + 2) L' st) : V p l e R s m args below meth c nL A G Y cells slots Q σ pc L (rv G.2.2.1 o :: st) := by
  cases o with
  | none => exact fun H locs ls hW hS hl => lv_astoreN hC.1.1 hC.1.2.1 hdg hl hn rfl (fun ls' hl' => k H locs ls' hW hS (lv_sub hl' ks hp))
  | some x => exact fun H locs ls hW hS hl => lv_astore hC.1.1 hC.1.2.1 hdg hl hn rfl (fun ls' hl' => k H locs ls' hW hS (lv_sub hl' ks hp))
theorem v_iinc (hC : Cx EX G.1 G.2.1 Y cc nL ret own Ts p s m args meth c A) {i : Nat} {n : Int} {x v : Int32} (hdg : decode cc pc = .ok (.iinc i n, 3)) (q : Nat) (hl0 : L[q]? = some (i, .int x)) (hv : x + Int32.ofInt n = v) (hn : i < nL) (ks : List Nat) (hp : lv_pick ((i, Value.int v) :: L.filter (fun q => !(q.1 == i) && !(q.1 + 1 == i && q.2.category == 2))) ks = L') (k : V p l e R s m args below meth c nL A G Y cells slots Q σ (pc + 3) L' st) : V p l e R s m args below meth c nL A G Y cells slots Q σ pc L st := fun H locs ls hW hS hl => lv_iinc hC.1.1 hC.1.2.1 hdg hl hl0 hv hn rfl (fun ls' hl' => k H locs ls' hW hS (lv_sub hl' ks hp))
theorem v_get (hC : Cx EX G.1 G.2.1 Y cc nL ret own Ts p s m args meth c A) {C : String} {T : u_T} {N ci index i k : Nat} {v : Value} (hO : Ob G Y i ci) (hin : ∀ w ∈ u_ws C T N, w ∈ Ts) (hc : vwCl[ci]? = some (C, T, N)) (hci : ci < 9) (hk : k < N) (hN : (fcs.getD ci []).length = N) (hT : (T k).1 = C) (hlink : Cond.fieldLink own index C (T k).2.1 (T k).2.2.1 ∈ Ts) (hdg : decode cc pc = .ok (.getfield index, 3)) (hv : fval G.2.2.1 σ i k (fcd ci k) = v) (kk : V p l e R s m args below meth c nL A G Y cells slots Q σ (pc + 3) L (v :: st)) : V p l e R s m args below meth c nL A G Y cells slots Q σ pc L (.ref (G.2.2.1 i) :: st) := by
  intro H locs ls hW hS hl
  obtain ⟨q0, hq⟩ := wl_at (Y := Y) (σ := σ) hO.1
  rw [cont_obj hO.2 hci] at hq
  exact va_get hC.1.1 hC.1.2.1 hC.1.2.2.2.2 hin hC.1.2.2.2.1 hC.2.2.2.1 hW.1 q0 hq hc k hk (hC.1.2.2.2.2 _ hlink) (fun x h => by rw [hT] at h; exact h) (by rw [fl_at (by rw [hN]; exact hk), hv]) hdg (kk H locs ls hW hS hl)
theorem v_getN (hC : Cx EX G.1 G.2.1 Y cc nL ret own Ts p s m args meth c A) {C host : String} {T : u_T} {N ci index i k : Nat} {v : Value} (hO : Ob G Y i ci) (hin : ∀ w ∈ u_ws C T N, w ∈ Ts) (hc : vwCl[ci]? = some (C, T, N)) (hci : ci < 9) (hk : k < N) (hN : (fcs.getD ci []).length = N) (hT : (T k).1 = C) (hlink : va_Nw (Cond.fieldLinkNest own index C (T k).2.1 (T k).2.2.1 host) s) (hdg : decode cc pc = .ok (.getfield index, 3)) (hv : fval G.2.2.1 σ i k (fcd ci k) = v) (kk : V p l e R s m args below meth c nL A G Y cells slots Q σ (pc + 3) L (v :: st)) : V p l e R s m args below meth c nL A G Y cells slots Q σ pc L (.ref (G.2.2.1 i) :: st) := by
  intro H locs ls hW hS hl
  obtain ⟨q0, hq⟩ := wl_at (Y := Y) (σ := σ) hO.1
  rw [cont_obj hO.2 hci] at hq
  exact va_getN hC.1.1 hC.1.2.1 hC.1.2.2.2.2 hin hC.1.2.2.2.1 hC.2.2.2.1 hW.1 q0 hq hc k hk (hlink.use rfl) (fun x h => by rw [hT] at h; exact h) (by rw [fl_at (by rw [hN]; exact hk), hv]) hdg (kk H locs ls hW hS hl)
/-- a world behind a write -/
theorem wH_set {τ : HS} {i q : Nat} {e : va_E} {H H1 : Heap} (hW : wH G Y A σ H) (hi : i ∈ G.2.2.2.1) (hq : (wl G Y σ)[q]? = some (G.2.2.1 i, cont G.2.1 G.2.2.1 Y σ i)) (he : e = cont G.2.1 G.2.2.1 Y τ i) (hs : ∀ j, j ≠ i → τ.1 j = σ.1 j ∧ τ.2.1 j = σ.2.1 j ∧ τ.2.2 j = σ.2.2 j) (ht : wt G Y τ) (hP : va_P G.1 vwCl ((wl G Y σ).set q (G.2.2.1 i, e)) H1) (hD : va_D A ((wl G Y σ).set q (G.2.2.1 i, e))) : wH G Y A τ H1 := by
  subst he
  rw [wl_set hW.2.1 hi hq hs] at hP hD
  exact ⟨hP, hD, ht⟩
theorem wt_sI {i k : Nat} {v : Int32} (h : wt G Y σ) : wt G Y (sI σ i k v) := h
theorem wt_sJ {i k : Nat} {v : Int64} (h : wt G Y σ) : wt G Y (sJ σ i k v) := h
theorem wt_sA {i : Nat} {f : Nat → Int32} (h : wt G Y σ) : wt G Y (sA σ i f) := h
theorem wt_sR {i k : Nat} {v : Option Nat} (h : wt G Y σ) (hv : ∀ j, v = some j → j ∈ G.2.2.2.1 ∧ Y.1 j = rkd (Y.1 i) k) : wt G Y (sR σ i k v) := by
  intro a ha n j hj
  rw [gR_sR] at hj
  by_cases q : a = i ∧ n = k
  · rw [if_pos q] at hj
    rw [q.1, q.2]
    exact hv j hj
  · rw [if_neg q] at hj
    exact h a ha n j hj
theorem v_putI (hC : Cx EX G.1 G.2.1 Y cc nL ret own Ts p s m args meth c A) {C : String} {T : u_T} {N ci index i k : Nat} {v : Int32} {ty : FieldType} {ty0 : Nat → FieldType} (hO : Ob G Y i ci) (hin : ∀ w ∈ u_ws C T N, w ∈ Ts) (hc : vwCl[ci]? = some (C, T, N)) (hci : ci < 9) (hk : k < N) (hN : (fcs.getD ci []).length = N) (hT : (T k).1 = C) (hty : ∀ k, k < N → parseFieldDescriptor (T k).2.2.1 = some (ty0 k)) (hnm : ∀ a, a < N → ∀ b, b < N → a ≠ b → (T a).2.1 ≠ (T b).2.1) (hlink : Cond.fieldLink own index C (T k).2.1 (T k).2.2.1 ∈ Ts) (hfin : (T k).2.2.2 = false) (hcd : fcd ci k = 0) (hd : ty0 k = ty) (hn : narrow ty (.int v) = .int v) (hfit : fits ty (.int v) = true) (hdg : decode cc pc = .ok (.putfield index, 3)) (kk : V p l e R s m args below meth c nL A G Y cells slots Q (sI σ i k v) (pc + 3) L st) : V p l e R s m args below meth c nL A G Y cells slots Q σ pc L (.int v :: .ref (G.2.2.1 i) :: st) := by
  intro H locs ls hW hS hl
  obtain ⟨q0, hq⟩ := wl_at (Y := Y) (σ := σ) hO.1
  have hq' := hq
  rw [cont_obj hO.2 hci] at hq
  refine va_put hC.1.1 hC.1.2.1 hC.1.2.2.2.2 hin ty0 hty hnm hC.1.2.2.2.1 hC.2.2.2.1 hW.1 hW.2.1 hS q0 hq hc k hk (hC.1.2.2.2.2 _ hlink) (fun x h => by rw [hT] at h; exact h) hfin (by rw [hty k hk, hd]) hn hfit (by rw [fl_len, hN]; exact hk) hdg (fun H1 locs1 hP1 hD1 hS1 => ?_)
  refine kk H1 locs1 ls (wH_set hW hO.1 hq' ?_ (sI_ne σ i k v) (wt_sI hW.2.2) hP1 hD1) hS1 hl
  rw [cont_obj hO.2 hci, fl_set (σ := σ) (τ := sI σ i k v)]
  · rw [hcd]
    show Value.int (gI (sI σ i k v) i k) = .int v
    rw [gI_sI, if_pos ⟨rfl, rfl⟩]
  · exact fun n hn => fval_sI hn
theorem v_putIN (hC : Cx EX G.1 G.2.1 Y cc nL ret own Ts p s m args meth c A) {C host : String} {T : u_T} {N ci index i k : Nat} {v : Int32} {ty : FieldType} {ty0 : Nat → FieldType} (hO : Ob G Y i ci) (hin : ∀ w ∈ u_ws C T N, w ∈ Ts) (hc : vwCl[ci]? = some (C, T, N)) (hci : ci < 9) (hk : k < N) (hN : (fcs.getD ci []).length = N) (hT : (T k).1 = C) (hty : ∀ k, k < N → parseFieldDescriptor (T k).2.2.1 = some (ty0 k)) (hnm : ∀ a, a < N → ∀ b, b < N → a ≠ b → (T a).2.1 ≠ (T b).2.1) (hlink : va_Nw (Cond.fieldLinkNest own index C (T k).2.1 (T k).2.2.1 host) s) (hfin : (T k).2.2.2 = false) (hcd : fcd ci k = 0) (hd : ty0 k = ty) (hn : narrow ty (.int v) = .int v) (hfit : fits ty (.int v) = true) (hdg : decode cc pc = .ok (.putfield index, 3)) (kk : V p l e R s m args below meth c nL A G Y cells slots Q (sI σ i k v) (pc + 3) L st) : V p l e R s m args below meth c nL A G Y cells slots Q σ pc L (.int v :: .ref (G.2.2.1 i) :: st) := by
  intro H locs ls hW hS hl
  obtain ⟨q0, hq⟩ := wl_at (Y := Y) (σ := σ) hO.1
  have hq' := hq
  rw [cont_obj hO.2 hci] at hq
  refine va_putN hC.1.1 hC.1.2.1 hC.1.2.2.2.2 hin ty0 hty hnm hC.1.2.2.2.1 hC.2.2.2.1 hW.1 hW.2.1 hS q0 hq hc k hk (hlink.use rfl) (fun x h => by rw [hT] at h; exact h) hfin (by rw [hty k hk, hd]) hn hfit (by rw [fl_len, hN]; exact hk) hdg (fun H1 locs1 hP1 hD1 hS1 => ?_)
  refine kk H1 locs1 ls (wH_set hW hO.1 hq' ?_ (sI_ne σ i k v) (wt_sI hW.2.2) hP1 hD1) hS1 hl
  rw [cont_obj hO.2 hci, fl_set (σ := σ) (τ := sI σ i k v)]
  · rw [hcd]
    show Value.int (gI (sI σ i k v) i k) = .int v
    rw [gI_sI, if_pos ⟨rfl, rfl⟩]
  · exact fun n hn => fval_sI hn
theorem v_putJ (hC : Cx EX G.1 G.2.1 Y cc nL ret own Ts p s m args meth c A) {C : String} {T : u_T} {N ci index i k : Nat} {v : Int64} {ty0 : Nat → FieldType} (hO : Ob G Y i ci) (hin : ∀ w ∈ u_ws C T N, w ∈ Ts) (hc : vwCl[ci]? = some (C, T, N)) (hci : ci < 9) (hk : k < N) (hN : (fcs.getD ci []).length = N) (hT : (T k).1 = C) (hty : ∀ k, k < N → parseFieldDescriptor (T k).2.2.1 = some (ty0 k)) (hnm : ∀ a, a < N → ∀ b, b < N → a ≠ b → (T a).2.1 ≠ (T b).2.1) (hlink : Cond.fieldLink own index C (T k).2.1 (T k).2.2.1 ∈ Ts) (hfin : (T k).2.2.2 = false) (hcd : fcd ci k = 1) (hd : ty0 k = .long) (hdg : decode cc pc = .ok (.putfield index, 3)) (kk : V p l e R s m args below meth c nL A G Y cells slots Q (sJ σ i k v) (pc + 3) L st) : V p l e R s m args below meth c nL A G Y cells slots Q σ pc L (.long v :: .ref (G.2.2.1 i) :: st) := by
  intro H locs ls hW hS hl
  obtain ⟨q0, hq⟩ := wl_at (Y := Y) (σ := σ) hO.1
  have hq' := hq
  rw [cont_obj hO.2 hci] at hq
  refine va_put hC.1.1 hC.1.2.1 hC.1.2.2.2.2 hin ty0 hty hnm hC.1.2.2.2.1 hC.2.2.2.1 hW.1 hW.2.1 hS q0 hq hc k hk (hC.1.2.2.2.2 _ hlink) (fun x h => by rw [hT] at h; exact h) hfin (ty := .long) (by rw [hty k hk, hd]) rfl rfl (by rw [fl_len, hN]; exact hk) hdg (fun H1 locs1 hP1 hD1 hS1 => ?_)
  refine kk H1 locs1 ls (wH_set hW hO.1 hq' ?_ (sJ_ne σ i k v) (wt_sJ hW.2.2) hP1 hD1) hS1 hl
  rw [cont_obj hO.2 hci, fl_set (σ := σ) (τ := sJ σ i k v)]
  · rw [hcd]
    show Value.long (gJ (sJ σ i k v) i k) = .long v
    rw [gJ_sJ, if_pos ⟨rfl, rfl⟩]
  · exact fun n hn => fval_sJ hn
theorem v_putR (hC : Cx EX G.1 G.2.1 Y cc nL ret own Ts p s m args meth c A) {C K : String} {T : u_T} {N ci index i k j : Nat} {ty0 : Nat → FieldType} (hO : Ob G Y i ci) (hin : ∀ w ∈ u_ws C T N, w ∈ Ts) (hc : vwCl[ci]? = some (C, T, N)) (hci : ci < 9) (hk : k < N) (hN : (fcs.getD ci []).length = N) (hT : (T k).1 = C) (hty : ∀ k, k < N → parseFieldDescriptor (T k).2.2.1 = some (ty0 k)) (hnm : ∀ a, a < N → ∀ b, b < N → a ≠ b → (T a).2.1 ≠ (T b).2.1) (hlink : Cond.fieldLink own index C (T k).2.1 (T k).2.2.1 ∈ Ts) (hfin : (T k).2.2.2 = false) (hcd : fcd ci k = 2) (hd : ty0 k = .object K) (hj : Ob G Y j (rkd ci k)) (hdg : decode cc pc = .ok (.putfield index, 3)) (kk : V p l e R s m args below meth c nL A G Y cells slots Q (sR σ i k (some j)) (pc + 3) L st) : V p l e R s m args below meth c nL A G Y cells slots Q σ pc L (.ref (G.2.2.1 j) :: .ref (G.2.2.1 i) :: st) := by
  intro H locs ls hW hS hl
  obtain ⟨q0, hq⟩ := wl_at (Y := Y) (σ := σ) hO.1
  have hq' := hq
  rw [cont_obj hO.2 hci] at hq
  refine va_put hC.1.1 hC.1.2.1 hC.1.2.2.2.2 hin ty0 hty hnm hC.1.2.2.2.1 hC.2.2.2.1 hW.1 hW.2.1 hS q0 hq hc k hk (hC.1.2.2.2.2 _ hlink) (fun x h => by rw [hT] at h; exact h) hfin (ty := .object K) (by rw [hty k hk, hd]) rfl rfl (by rw [fl_len, hN]; exact hk) hdg (fun H1 locs1 hP1 hD1 hS1 => ?_)
  refine kk H1 locs1 ls (wH_set hW hO.1 hq' ?_ (sR_ne σ i k (some j)) (wt_sR hW.2.2 (fun z hz => by cases hz; rw [hO.2]; exact ⟨hj.1, hj.2⟩)) hP1 hD1) hS1 hl
  rw [cont_obj hO.2 hci, fl_set (σ := σ) (τ := sR σ i k (some j))]
  · rw [hcd]
    show rv G.2.2.1 (gR (sR σ i k (some j)) i k) = .ref (G.2.2.1 j)
    rw [gR_sR, if_pos ⟨rfl, rfl⟩]
    rfl
  · exact fun n hn => fval_sR hn
theorem ty_at {t0 k : Nat} {ty : FieldType} (ht : Y.2.2[t0]? = some (k, ty)) : (Y.2.2.map fun q => (G.2.1 q.1, q.2))[t0]? = some (G.2.1 k, ty) := by rw [List.getElem?_map, ht]; rfl
theorem v_iald (hC : Cx EX G.1 G.2.1 Y cc nL ret own Ts p s m args meth c A) {a n t0 : Nat} {i : Int32} (hO : Ob G Y a 9) (hn : Y.2.1 a = n) (ht : Y.2.2[t0]? = some (9, .int)) (hin : inb i n = true) (hdg : decode cc pc = .ok (.iaload, 1)) (kk : V p l e R s m args below meth c nL A G Y cells slots Q σ (pc + 1) L (.int (gI σ a (ix i)) :: st)) : V p l e R s m args below meth c nL A G Y cells slots Q σ pc L (.int i :: .ref (G.2.2.1 a) :: st) := by
  intro H locs ls hW hS hl
  obtain ⟨q0, hq⟩ := wl_at (Y := Y) (σ := σ) hO.1
  rw [cont_int hO.2 (Or.inl rfl), hn] at hq
  exact va_iald hC.1.1 hC.1.2.1 hC.2.2.2.1 hW.1 q0 t0 hq (ty_at ht) (inb_vp hin) hdg (kk H locs ls hW hS hl)
theorem v_zald (hC : Cx EX G.1 G.2.1 Y cc nL ret own Ts p s m args meth c A) {a n t0 : Nat} {i : Int32} (hO : Ob G Y a 11) (hn : Y.2.1 a = n) (ht : Y.2.2[t0]? = some (11, .boolean)) (hin : inb i n = true) (hdg : decode cc pc = .ok (.baload, 1)) (kk : V p l e R s m args below meth c nL A G Y cells slots Q σ (pc + 1) L (.int (gI σ a (ix i)) :: st)) : V p l e R s m args below meth c nL A G Y cells slots Q σ pc L (.int i :: .ref (G.2.2.1 a) :: st) := by
  intro H locs ls hW hS hl
  obtain ⟨q0, hq⟩ := wl_at (Y := Y) (σ := σ) hO.1
  rw [cont_int hO.2 (Or.inr rfl), hn] at hq
  exact va_zald hC.1.1 hC.1.2.1 hC.2.2.2.1 hW.1 q0 t0 hq (ty_at ht) (inb_vp hin) hdg (kk H locs ls hW hS hl)
theorem v_lald (hC : Cx EX G.1 G.2.1 Y cc nL ret own Ts p s m args meth c A) {a n t0 : Nat} {i : Int32} (hO : Ob G Y a 10) (hn : Y.2.1 a = n) (ht : Y.2.2[t0]? = some (10, .long)) (hin : inb i n = true) (hdg : decode cc pc = .ok (.laload, 1)) (kk : V p l e R s m args below meth c nL A G Y cells slots Q σ (pc + 1) L (.long (gJ σ a (ix i)) :: st)) : V p l e R s m args below meth c nL A G Y cells slots Q σ pc L (.int i :: .ref (G.2.2.1 a) :: st) := by
  intro H locs ls hW hS hl
  obtain ⟨q0, hq⟩ := wl_at (Y := Y) (σ := σ) hO.1
  rw [cont_long hO.2, hn] at hq
  exact va_lald hC.1.1 hC.1.2.1 hC.2.2.2.1 hW.1 q0 t0 hq (ty_at ht) (inb_vp hin) hdg (kk H locs ls hW hS hl)
theorem v_aald (hC : Cx EX G.1 G.2.1 Y cc nL ret own Ts p s m args meth c A) {C : String} {a n t0 ck : Nat} {i : Int32} (hO : Ob G Y a ck) (hck : 12 ≤ ck) (hn : Y.2.1 a = n) (ht : Y.2.2[t0]? = some (ck, .object C)) (hin : inb i n = true) (hdg : decode cc pc = .ok (.aaload, 1)) (kk : V p l e R s m args below meth c nL A G Y cells slots Q σ (pc + 1) L (rv G.2.2.1 (gR σ a (ix i)) :: st)) : V p l e R s m args below meth c nL A G Y cells slots Q σ pc L (.int i :: .ref (G.2.2.1 a) :: st) := by
  intro H locs ls hW hS hl
  obtain ⟨q0, hq⟩ := wl_at (Y := Y) (σ := σ) hO.1
  rw [cont_ref hO.2 hck, hn] at hq
  exact va_aldq hC.1.1 hC.1.2.1 hC.2.2.2.1 hW.1 q0 t0 hq (ty_at ht) (inb_vp hin) hdg (kk H locs ls hW hS hl)
theorem v_alen (hC : Cx EX G.1 G.2.1 Y cc nL ret own Ts p s m args meth c A) {a n t0 : Nat} {v : Int32} (hO : Ob G Y a 9) (hn : Y.2.1 a = n) (ht : Y.2.2[t0]? = some (9, .int)) (hv : Int32.ofNat n = v) (hdg : decode cc pc = .ok (.arraylength, 1)) (kk : V p l e R s m args below meth c nL A G Y cells slots Q σ (pc + 1) L (.int v :: st)) : V p l e R s m args below meth c nL A G Y cells slots Q σ pc L (.ref (G.2.2.1 a) :: st) := by
  intro H locs ls hW hS hl
  obtain ⟨q0, hq⟩ := wl_at (Y := Y) (σ := σ) hO.1
  rw [cont_int hO.2 (Or.inl rfl), hn] at hq
  exact va_alen hC.1.1 hC.1.2.1 hC.2.2.2.1 hW.1 q0 t0 hq (ty_at ht) hv hdg (kk H locs ls hW hS hl)
theorem gI_upd {i k : Nat} {v : Int32} : gI (sI σ i k v) i = upd (gI σ i) k v := by
  funext n
  rw [gI_sI]
  by_cases h : n = k
  · simp [upd, h]
  · simp [upd, h]
theorem gJ_upd {i k : Nat} {v : Int64} : gJ (sJ σ i k v) i = vp_updL (gJ σ i) k v := by
  funext n
  rw [gJ_sJ]
  by_cases h : n = k
  · simp [vp_updL, h]
  · simp [vp_updL, h]
theorem v_iast (hC : Cx EX G.1 G.2.1 Y cc nL ret own Ts p s m args meth c A) {a n t0 : Nat} {i x : Int32} (hO : Ob G Y a 9) (hn : Y.2.1 a = n) (ht : Y.2.2[t0]? = some (9, .int)) (hin : inb i n = true) (hdg : decode cc pc = .ok (.iastore, 1)) (kk : V p l e R s m args below meth c nL A G Y cells slots Q (sI σ a (ix i) x) (pc + 1) L st) : V p l e R s m args below meth c nL A G Y cells slots Q σ pc L (.int x :: .int i :: .ref (G.2.2.1 a) :: st) := by
  intro H locs ls hW hS hl
  obtain ⟨q0, hq⟩ := wl_at (Y := Y) (σ := σ) hO.1
  have hq' := hq
  rw [cont_int hO.2 (Or.inl rfl), hn] at hq
  refine va_iast hC.1.1 hC.1.2.1 hC.2.2.2.1 hW.1 hW.2.1 hS q0 t0 hq (ty_at ht) (inb_vp hin) hdg (fun H1 locs1 hP1 hD1 hS1 => ?_)
  refine kk H1 locs1 ls (wH_set hW hO.1 hq' ?_ (sI_ne σ a (ix i) x) (wt_sI hW.2.2) hP1 hD1) hS1 hl
  rw [cont_int hO.2 (Or.inl rfl), hn, gI_upd]
  rfl
theorem v_zast (hC : Cx EX G.1 G.2.1 Y cc nL ret own Ts p s m args meth c A) {a n t0 : Nat} {i x : Int32} (hO : Ob G Y a 11) (hn : Y.2.1 a = n) (ht : Y.2.2[t0]? = some (11, .boolean)) (hin : inb i n = true) (hdg : decode cc pc = .ok (.bastore, 1)) (kk : V p l e R s m args below meth c nL A G Y cells slots Q (sI σ a (ix i) (vp_nar .boolean x)) (pc + 1) L st) : V p l e R s m args below meth c nL A G Y cells slots Q σ pc L (.int x :: .int i :: .ref (G.2.2.1 a) :: st) := by
  intro H locs ls hW hS hl
  obtain ⟨q0, hq⟩ := wl_at (Y := Y) (σ := σ) hO.1
  have hq' := hq
  rw [cont_int hO.2 (Or.inr rfl), hn] at hq
  refine va_zast hC.1.1 hC.1.2.1 hC.2.2.2.1 hW.1 hW.2.1 hS q0 t0 hq (ty_at ht) (inb_vp hin) hdg (fun H1 locs1 hP1 hD1 hS1 => ?_)
  refine kk H1 locs1 ls (wH_set hW hO.1 hq' ?_ (sI_ne σ a (ix i) (vp_nar .boolean x)) (wt_sI hW.2.2) hP1 hD1) hS1 hl
  rw [cont_int hO.2 (Or.inr rfl), hn, gI_upd]
  rfl
theorem v_last (hC : Cx EX G.1 G.2.1 Y cc nL ret own Ts p s m args meth c A) {a n t0 : Nat} {i : Int32} {x : Int64} (hO : Ob G Y a 10) (hn : Y.2.1 a = n) (ht : Y.2.2[t0]? = some (10, .long)) (hin : inb i n = true) (hdg : decode cc pc = .ok (.lastore, 1)) (kk : V p l e R s m args below meth c nL A G Y cells slots Q (sJ σ a (ix i) x) (pc + 1) L st) : V p l e R s m args below meth c nL A G Y cells slots Q σ pc L (.long x :: .int i :: .ref (G.2.2.1 a) :: st) := by
  intro H locs ls hW hS hl
  obtain ⟨q0, hq⟩ := wl_at (Y := Y) (σ := σ) hO.1
  have hq' := hq
  rw [cont_long hO.2, hn] at hq
  refine va_last hC.1.1 hC.1.2.1 hC.2.2.2.1 hW.1 hW.2.1 hS q0 t0 hq (ty_at ht) (inb_vp hin) hdg (fun H1 locs1 hP1 hD1 hS1 => ?_)
  refine kk H1 locs1 ls (wH_set hW hO.1 hq' ?_ (sJ_ne σ a (ix i) x) (wt_sJ hW.2.2) hP1 hD1) hS1 hl
  rw [cont_long hO.2, hn, gJ_upd]
  rfl
/-- arraycopy of ints; the two rows may be one -/
theorem v_copy (hC : Cx EX G.1 G.2.1 Y cc nL ret own Ts p s m args meth c A) {index a0 a n0 n t0 : Nat} {sp dp k : Int32} (hO0 : Ob G Y a0 9) (hO : Ob G Y a 9) (hn0 : Y.2.1 a0 = n0) (hn : Y.2.1 a = n) (ht : Y.2.2[t0]? = some (9, .int)) (hlink : Cond.methodLink own index arraycopyName ∈ Ts) (hnat : Cond.native arraycopyName ∈ Ts) (hstat : Cond.static arraycopyName ∈ Ts) (hini : Cond.initialized "java/lang/System" ∈ Ts)
    (h1 : ¬ sp < 0) (h2 : ¬ dp < 0) (h3 : ¬ k < 0) (h4 : ix sp + ix k ≤ n0) (h5 : ix dp + ix k ≤ n) (hst : st = []) (hf : 1 ≤ R.frames) (hlo : nativeFrameWords "java/lang/System" "arraycopy" 5 + 11 ≤ R.locals) (hdg : decode cc pc = .ok (.invokestatic index, 3)) (kk : V p l e R s m args below meth c nL A G Y cells slots Q (sA σ a (va_cpy (gI σ a0) (gI σ a) (ix sp) (ix dp) (ix k))) (pc + 3) L st) : V p l e R s m args below meth c nL A G Y cells slots Q σ pc L (.int k :: .int dp :: .ref (G.2.2.1 a) :: .int sp :: .ref (G.2.2.1 a0) :: st) := by
  intro H locs ls hW hS hl
  subst hst
  obtain ⟨q0, hq0⟩ := wl_at (Y := Y) (σ := σ) hO0.1
  obtain ⟨q1, hq⟩ := wl_at (Y := Y) (σ := σ) hO.1
  have hq' := hq
  rw [cont_int hO.2 (Or.inl rfl), hn] at hq
  rw [cont_int hO0.2 (Or.inl rfl), hn0] at hq0
  refine va_copyi hC.1.1 hC.1.2.1 (hC.1.2.2.1.trans hl.1.symm) hC.1.2.2.2.1 (hC.1.2.2.2.2 _ hlink) (hC.1.2.2.2.2 _ hnat) (hC.1.2.2.2.2 _ hstat) (hC.1.2.2.2.2 _ hini) hC.2.2.2.1 hW.1 hW.2.1 hS q0 q1 t0 t0 hq0 hq (ty_at ht) (ty_at ht) rfl h1 h2 h3 h4 h5 (fun _ _ => rfl) hf (by simpa using hlo) hdg (fun H1 locs1 hP1 hD1 hS1 => ?_)
  refine kk H1 locs1 ls (wH_set hW hO.1 hq' ?_ (sA_ne σ a _) (wt_sA hW.2.2) hP1 hD1) hS1 hl
  rw [cont_int hO.2 (Or.inl rfl), hn]
  have e : gI (sA σ a (va_cpy (gI σ a0) (gI σ a) (ix sp) (ix dp) (ix k))) a = va_cpy (gI σ a0) (gI σ a) (ix sp) (ix dp) (ix k) := by
    funext n
    rw [gI_sA, if_pos rfl]
  rw [e]
  rfl
theorem v_max (hC : Cx EX G.1 G.2.1 Y cc nL ret own Ts p s m args meth c A) {index : Nat} {x y : Int32} (hlink : Cond.methodLink own index Lib.Math.max.name ∈ Ts) (hstat : Cond.static Lib.Math.max.name ∈ Ts) (hini : Cond.initialized "java/lang/Math" ∈ Ts) (hcode : Cond.code Lib.Math.max.name Lib.Math.max.code 2 (some .int) ∈ Ts) (hf : 1 ≤ R.frames) (hlo : (st.map fun v => v.category).sum + 13 ≤ R.locals) (hcs : cells ≤ R.cells ∧ slots ≤ R.slots) (hdg : decode cc pc = .ok (.invokestatic index, 3)) (k : V p l e R s m args below meth c nL A G Y cells slots Q σ (pc + 3) L (.int (jxmax x y) :: st)) : V p l e R s m args below meth c nL A G Y cells slots Q σ pc L (.int y :: .int x :: st) :=
  fun H locs ls hW hS hl => va_mmax hC.1.1 hC.1.2.1 (hC.1.2.2.1.trans hl.1.symm) hC.1.2.2.2.1 (hC.1.2.2.2.2 _ hlink) (hC.1.2.2.2.2 _ hstat) (hC.1.2.2.2.2 _ hini) (hC.1.2.2.2.2 _ hcode) hf hlo hcs.1 hcs.2 hdg (k H locs ls hW hS hl)
theorem v_min (hC : Cx EX G.1 G.2.1 Y cc nL ret own Ts p s m args meth c A) {index : Nat} {x y : Int32} (hlink : Cond.methodLink own index Lib.Math.min.name ∈ Ts) (hstat : Cond.static Lib.Math.min.name ∈ Ts) (hini : Cond.initialized "java/lang/Math" ∈ Ts) (hcode : Cond.code Lib.Math.min.name Lib.Math.min.code 2 (some .int) ∈ Ts) (hf : 1 ≤ R.frames) (hlo : (st.map fun v => v.category).sum + 13 ≤ R.locals) (hcs : cells ≤ R.cells ∧ slots ≤ R.slots) (hdg : decode cc pc = .ok (.invokestatic index, 3)) (k : V p l e R s m args below meth c nL A G Y cells slots Q σ (pc + 3) L (.int (jxmin x y) :: st)) : V p l e R s m args below meth c nL A G Y cells slots Q σ pc L (.int y :: .int x :: st) :=
  fun H locs ls hW hS hl => va_mmin hC.1.1 hC.1.2.1 (hC.1.2.2.1.trans hl.1.symm) hC.1.2.2.2.1 (hC.1.2.2.2.2 _ hlink) (hC.1.2.2.2.2 _ hstat) (hC.1.2.2.2.2 _ hini) (hC.1.2.2.2.2 _ hcode) hf hlo hcs.1 hcs.2 hdg (k H locs ls hW hS hl)
end VR
/-! RETURNS, CONTRACTS, CALLS -/
def QI (G : WD) (Y : YD) (A : Nat → Prop) (r0 : Int32) (τ : HS) : Array Value → State → Outcome → State → Prop := va_Qi (fun (r : Int32) (u : HS) => r = r0 ∧ u = τ) (fun u t => wH G Y A u t.heap ∧ wK G Y t) A
def QJ (G : WD) (Y : YD) (A : Nat → Prop) (r0 : Int64) (τ : HS) : Array Value → State → Outcome → State → Prop := va_Ql (fun (r : Int64) (u : HS) => r = r0 ∧ u = τ) (fun u t => wH G Y A u t.heap ∧ wK G Y t) A
def QV (G : WD) (Y : YD) (A : Nat → Prop) (τ : HS) : Array Value → State → Outcome → State → Prop := va_Qv (fun (u : HS) => u = τ) (fun u t => wH G Y A u t.heap ∧ wK G Y t) A
def QR (G : WD) (Y : YD) (A : Nat → Prop) (r0 : Option Nat) (τ : HS) : Array Value → State → Outcome → State → Prop := va_Qq (fun (r : Option Nat) (u : HS) => r = r0.map G.2.2.1 ∧ u = τ) (fun u t => wH G Y A u t.heap ∧ wK G Y t) A
def EXok (EX : (Nat → Prop) → State → Heap → Prop) : Prop := (∀ (A : Nat → Prop) (s U : State) (H : Heap), s.WarmedH U.vm → EX A s H → EX A U H) ∧ (∀ (A : Nat → Prop) (u U : State) (H : Heap), U.vm = u.vm → EX A u H → EX A U H) ∧ (∀ (A : Nat → Prop) (U : State) (H H1 : Heap), (∀ a : Nat, a < H.size → ¬ A a → H1[a]? = H[a]?) → EX A U H → EX A U H1) ∧ (∀ (A B : Nat → Prop) (U : State) (H : Heap), (∀ q, B q → A q) → EX A U H → EX B U H)
def MPre (EX : (Nat → Prop) → State → Heap → Prop) (G : WD) (Y : YD) (σ : HS) (sz : Nat) : State → Prop := fun U => U.heap.size = sz ∧ wH G Y (fun _ => True) σ U.heap ∧ wK G Y U ∧ EX (wA G sz) U U.heap
def MI (EX : (Nat → Prop) → State → Heap → Prop) (l : Launch) (y : MethodName) (ws : List Cond) (rm : Room) (G : WD) (Y : YD) (As : List Value) (σ : HS) (r0 : Int32) (τ : HS) : Prop := ∀ sz : Nat, Met l y ws rm (va_Pc As (MPre EX G Y σ sz)) (QI G Y (wA G sz) r0 τ) 0 0 (wA G sz)
def MJ (EX : (Nat → Prop) → State → Heap → Prop) (l : Launch) (y : MethodName) (ws : List Cond) (rm : Room) (G : WD) (Y : YD) (As : List Value) (σ : HS) (r0 : Int64) (τ : HS) : Prop := ∀ sz : Nat, Met l y ws rm (va_Pc As (MPre EX G Y σ sz)) (QJ G Y (wA G sz) r0 τ) 0 0 (wA G sz)
def MV (EX : (Nat → Prop) → State → Heap → Prop) (l : Launch) (y : MethodName) (ws : List Cond) (rm : Room) (G : WD) (Y : YD) (As : List Value) (σ : HS) (τ : HS) : Prop := ∀ sz : Nat, Met l y ws rm (va_Pc As (MPre EX G Y σ sz)) (QV G Y (wA G sz) τ) 0 0 (wA G sz)
def MR (EX : (Nat → Prop) → State → Heap → Prop) (l : Launch) (y : MethodName) (ws : List Cond) (rm : Room) (G : WD) (Y : YD) (As : List Value) (σ : HS) (r0 : Option Nat) (τ : HS) : Prop := ∀ sz : Nat, Met l y ws rm (va_Pc As (MPre EX G Y σ sz)) (QR G Y (wA G sz) r0 τ) 0 0 (wA G sz)
theorem wH.weaken {G : WD} {Y : YD} {A B : Nat → Prop} {σ : HS} {H : Heap} (h : wH G Y A σ H) (hAB : ∀ q, A q → B q) : wH G Y B σ H := ⟨h.1, h.2.1.weaken (fun _ q _ ha => hAB q.1 ha), h.2.2⟩
theorem wH.self {G : WD} {Y : YD} {A : Nat → Prop} {σ : HS} {H : Heap} {sz : Nat} (h : wH G Y A σ H) : wH G Y (wA G sz) σ H := by
  refine ⟨h.1, h.2.1.weaken (fun k q hk _ => ?_), h.2.2⟩
  rcases wl_of hk with ⟨i, hi, -, e⟩ | ⟨-, hx⟩
  · subst e
    exact Or.inl ⟨i, hi, rfl⟩
  · exact Or.inr (Or.inl ⟨q, hx, rfl⟩)
theorem wA_in {G : WD} {Y : YD} {A : Nat → Prop} {σ : HS} {H0 H : Heap} {locs : List Loc} (h : wH G Y A σ H) (hS : va_S A H0 H locs) (hA : ∀ q, H0.size ≤ q → A q) : ∀ q, wA G H.size q → A q := by
  rintro q (⟨i, hi, rfl⟩ | ⟨x, hx, rfl⟩ | hq)
  · exact wl_in h.2.1 hi
  · obtain ⟨k, hk⟩ := List.getElem?_of_mem (List.mem_append_right (G.2.2.2.1.map fun i => (G.2.2.1 i, cont G.2.1 G.2.2.1 Y σ i)) hx)
    exact h.2.1.2 k x hk
  · exact hA q (Nat.le_trans hS.1 hq)
theorem pc_blind {EX : (Nat → Prop) → State → Heap → Prop} (hX : EXok EX) {G : WD} {Y : YD} {As : List Value} {σ : HS} {sz : Nat} : FrameBlind (va_Pc As (MPre EX G Y σ sz)) := fun a U g mk q => ⟨q.1, q.2.1, q.2.2.1, va_K.moved (u := U) (U := U.calling g mk a) (Vm.Alike.refl U.vm) q.2.2.2.1, hX.2.1 _ U (U.calling g mk a) _ rfl q.2.2.2.2⟩
theorem pc_at {EX : (Nat → Prop) → State → Heap → Prop} (hX : EXok EX) {G : WD} {Y : YD} {As : List Value} {σ : HS} {A : Nat → Prop} {s : State} {H : Heap} {locs : List Loc} (hW : wH G Y A σ H) (hS : va_S A s.heap H locs) (hA : ∀ q, s.heap.size ≤ q → A q) (hK : wK G Y s) (hE : EX A s s.heap) : ∀ U : State, U.heap = H → s.WarmedH U.vm → va_Pc As (MPre EX G Y σ H.size) As.toArray U := by
  intro U hU hWm
  refine ⟨rfl, by rw [hU], by rw [hU]; exact hW.weaken (fun _ _ => trivial), va_K.moved hWm.alike hK, ?_⟩
  rw [hU]
  exact hX.1 _ s U H hWm (hX.2.2.2 A _ s H (wA_in hW hS hA) (hX.2.2.1 A s s.heap H hS.2.1 hE))
section VC
variable {EX : (Nat → Prop) → State → Heap → Prop} {p : Program} {l : Launch} {e : Env} {R : Room} {s : State} {m : MethodId} {args : Array Value} {below : List Frame} {meth : Method} {c : Code} {nL : Nat} {A : Nat → Prop} {G : WD} {Y : YD} {cells slots : Nat} {Q : State → Prop} {σ τ : HS} {pc : Nat} {L L' : List (Nat × Value)} {st : List Value} {cc : ByteArray} {ret : Option FieldType} {own : String} {Ts : List Cond}
theorem v_iret (hC : Cx EX G.1 G.2.1 Y cc nL ret own Ts p s m args meth c A) {v r0 : Int32} (hr : ret = some .int) (hdg : decode cc pc = .ok (.ireturn, 1)) (h : some (v, σ) = some (r0, τ)) : V p l e R s m args below meth c nL A G Y cells slots (MQ below (QI G Y A r0 τ) args s cells slots A) σ pc L [.int v] := by
  cases h
  exact fun H locs ls hW hS hl => W.iret hC.1.1 hC.1.2.1 (hC.2.1.trans hr) (fun t ht hWm => ⟨⟨v, σ, rfl, ⟨rfl, rfl⟩, by rw [ht]; exact hW, va_K.moved hWm.alike hC.2.2.2.1⟩, hS.F ht⟩) hS.2.2 hdg hC.2.2.1
theorem v_zret (hC : Cx EX G.1 G.2.1 Y cc nL ret own Ts p s m args meth c A) {v r0 : Int32} {ty : FieldType} (hr : ret = some ty) (hn : narrow ty (.int v) = .int v) (hdg : decode cc pc = .ok (.ireturn, 1)) (h : some (v, σ) = some (r0, τ)) : V p l e R s m args below meth c nL A G Y cells slots (MQ below (QI G Y A r0 τ) args s cells slots A) σ pc L [.int v] := by
  cases h
  exact fun H locs ls hW hS hl => W.zret hC.1.1 hC.1.2.1 (hC.2.1.trans hr) hn (fun t ht hWm => ⟨⟨v, σ, rfl, ⟨rfl, rfl⟩, by rw [ht]; exact hW, va_K.moved hWm.alike hC.2.2.2.1⟩, hS.F ht⟩) hS.2.2 hdg hC.2.2.1
theorem v_lret (hC : Cx EX G.1 G.2.1 Y cc nL ret own Ts p s m args meth c A) {v r0 : Int64} (hr : ret = some .long) (hdg : decode cc pc = .ok (.lreturn, 1)) (h : some (v, σ) = some (r0, τ)) : V p l e R s m args below meth c nL A G Y cells slots (MQ below (QJ G Y A r0 τ) args s cells slots A) σ pc L [.long v] := by
  cases h
  exact fun H locs ls hW hS hl => W.lret hC.1.1 hC.1.2.1 (hC.2.1.trans hr) (fun t ht hWm => ⟨⟨v, σ, rfl, ⟨rfl, rfl⟩, by rw [ht]; exact hW, va_K.moved hWm.alike hC.2.2.2.1⟩, hS.F ht⟩) hS.2.2 hdg hC.2.2.1
theorem v_vret (hC : Cx EX G.1 G.2.1 Y cc nL ret own Ts p s m args meth c A) (hr : ret = none) (hdg : decode cc pc = .ok (.return_, 1)) (h : some σ = some τ) : V p l e R s m args below meth c nL A G Y cells slots (MQ below (QV G Y A τ) args s cells slots A) σ pc L [] := by
  cases h
  exact fun H locs ls hW hS hl => W.vret hC.1.1 hC.1.2.1 (hC.2.1.trans hr) (fun t ht hWm => ⟨⟨σ, rfl, rfl, by rw [ht]; exact hW, va_K.moved hWm.alike hC.2.2.2.1⟩, hS.F ht⟩) hS.2.2 hdg hC.2.2.1
theorem v_aret (hC : Cx EX G.1 G.2.1 Y cc nL ret own Ts p s m args meth c A) {o r0 : Option Nat} {rt : FieldType} (hr : ret = some rt) (hrt : (∃ n, rt = .object n) ∨ ∃ t, rt = .array t) (hdg : decode cc pc = .ok (.areturn, 1)) (h : some (o, σ) = some (r0, τ)) : V p l e R s m args below meth c nL A G Y cells slots (MQ below (QR G Y A r0 τ) args s cells slots A) σ pc L [rv G.2.2.1 o] := by
  cases h
  exact fun H locs ls hW hS hl => W.aret hC.1.1 hC.1.2.1 (hC.2.1.trans hr) hrt (by cases o with | none => exact Or.inl rfl | some a => exact Or.inr ⟨_, rfl⟩) (fun t ht hWm => ⟨⟨o.map G.2.2.1, σ, rfl, ⟨rfl, rfl⟩, by rw [ht]; exact hW, va_K.moved hWm.alike hC.2.2.2.1⟩, hS.F ht⟩) hS.2.2 hdg hC.2.2.1
theorem v_callVI (hC : Cx EX G.1 G.2.1 Y cc nL ret own Ts p s m args meth c A) (hX : EXok EX) {C : String} {i ci n index maxL : Nat} {q : vw_C} {y : MethodName} {bytes : ByteArray} {rt : Option FieldType} {ws : List Cond} {rm : Room} {As : List Value} {r0 : Int32} (hM : MI EX l y ws rm G Y (.ref (G.2.2.1 i) :: As) σ r0 τ) (cw : CallW R s args own C index y bytes maxL rt ws rm 0 0 n) (hO : Ob G Y i ci) (hci : ci < 9) (hc : vwCl[ci]? = some q) (hq : q.1 = C) (hn : As.length = n) (hst : (st.map fun v => v.category).sum ≤ 8) (hcs : cells ≤ R.cells ∧ slots ≤ R.slots) (hdg : decode cc pc = .ok (.invokevirtual index, 3)) {st0 : List Value} (hs0 : st0 = As.reverse ++ .ref (G.2.2.1 i) :: st) (kk : V p l e R s m args below meth c nL A G Y cells slots Q τ (pc + 3) L (.int r0 :: st)) : V p l e R s m args below meth c nL A G Y cells slots Q σ pc L st0 := by
  intro H locs ls hW hS hl
  obtain ⟨q0, hq0⟩ := wl_at (Y := Y) (σ := σ) hO.1
  rw [cont_obj hO.2 hci] at hq0
  have hF := wA_in hW hS hC.2.2.2.2.1
  refine va_calli (va_runV (As := As) (rest := st) hC.1 (hM H.size) cw ⟨pc_blind hX, by rw [← hq]; exact va_recv hC.2.2.2.1 hW.1 hc hq0, pc_at hX hW hS hC.2.2.2.2.1 hC.2.2.2.1 hC.2.2.2.2.2⟩ rfl hn hl.1 hs0 (lv_room hst) hdg hcs) hS (fun q _ h => hF q h) hF (fun r u t H1 locs1 ht hvm hw hB hz hk hS1 => ?_)
  obtain ⟨rfl, rfl⟩ := hw
  exact kk H1 locs1 ls (by rw [← ht]; exact hB.1.weaken hF) hS1 hl
theorem v_callSI (hC : Cx EX G.1 G.2.1 Y cc nL ret own Ts p s m args meth c A) (hX : EXok EX) {n index maxL : Nat} {y : MethodName} {bytes : ByteArray} {rt : Option FieldType} {ws : List Cond} {rm : Room} {As : List Value} {r0 : Int32} (hM : MI EX l y ws rm G Y As σ r0 τ) (cw : CallB R s args own index y bytes maxL rt ws rm 0 0 n ∧ (Cond.static y).before args s = true) (hn : As.length = n) (hst : (st.map fun v => v.category).sum ≤ 8) (hcs : cells ≤ R.cells ∧ slots ≤ R.slots) (hdg : decode cc pc = .ok (.invokestatic index, 3)) {st0 : List Value} (hs0 : st0 = As.reverse ++ st) (kk : V p l e R s m args below meth c nL A G Y cells slots Q τ (pc + 3) L (.int r0 :: st)) : V p l e R s m args below meth c nL A G Y cells slots Q σ pc L st0 := by
  intro H locs ls hW hS hl
  have hF := wA_in hW hS hC.2.2.2.2.1
  refine va_calli (va_runS (As := As) (rest := st) hC.1 (hM H.size) cw ⟨pc_blind hX, pc_at hX hW hS hC.2.2.2.2.1 hC.2.2.2.1 hC.2.2.2.2.2⟩ rfl hn hl.1 hs0 (lv_room hst) hdg hcs) hS (fun q _ h => hF q h) hF (fun r u t H1 locs1 ht hvm hw hB hz hk hS1 => ?_)
  obtain ⟨rfl, rfl⟩ := hw
  exact kk H1 locs1 ls (by rw [← ht]; exact hB.1.weaken hF) hS1 hl
theorem v_callVJ (hC : Cx EX G.1 G.2.1 Y cc nL ret own Ts p s m args meth c A) (hX : EXok EX) {C : String} {i ci n index maxL : Nat} {q : vw_C} {y : MethodName} {bytes : ByteArray} {rt : Option FieldType} {ws : List Cond} {rm : Room} {As : List Value} {r0 : Int64} (hM : MJ EX l y ws rm G Y (.ref (G.2.2.1 i) :: As) σ r0 τ) (cw : CallW R s args own C index y bytes maxL rt ws rm 0 0 n) (hO : Ob G Y i ci) (hci : ci < 9) (hc : vwCl[ci]? = some q) (hq : q.1 = C) (hn : As.length = n) (hst : (st.map fun v => v.category).sum ≤ 8) (hcs : cells ≤ R.cells ∧ slots ≤ R.slots) (hdg : decode cc pc = .ok (.invokevirtual index, 3)) {st0 : List Value} (hs0 : st0 = As.reverse ++ .ref (G.2.2.1 i) :: st) (kk : V p l e R s m args below meth c nL A G Y cells slots Q τ (pc + 3) L (.long r0 :: st)) : V p l e R s m args below meth c nL A G Y cells slots Q σ pc L st0 := by
  intro H locs ls hW hS hl
  obtain ⟨q0, hq0⟩ := wl_at (Y := Y) (σ := σ) hO.1
  rw [cont_obj hO.2 hci] at hq0
  have hF := wA_in hW hS hC.2.2.2.2.1
  refine va_calll (va_runV (As := As) (rest := st) hC.1 (hM H.size) cw ⟨pc_blind hX, by rw [← hq]; exact va_recv hC.2.2.2.1 hW.1 hc hq0, pc_at hX hW hS hC.2.2.2.2.1 hC.2.2.2.1 hC.2.2.2.2.2⟩ rfl hn hl.1 hs0 (lv_room hst) hdg hcs) hS (fun q _ h => hF q h) hF (fun r u t H1 locs1 ht hvm hw hB hz hk hS1 => ?_)
  obtain ⟨rfl, rfl⟩ := hw
  exact kk H1 locs1 ls (by rw [← ht]; exact hB.1.weaken hF) hS1 hl
theorem v_callSJ (hC : Cx EX G.1 G.2.1 Y cc nL ret own Ts p s m args meth c A) (hX : EXok EX) {n index maxL : Nat} {y : MethodName} {bytes : ByteArray} {rt : Option FieldType} {ws : List Cond} {rm : Room} {As : List Value} {r0 : Int64} (hM : MJ EX l y ws rm G Y As σ r0 τ) (cw : CallB R s args own index y bytes maxL rt ws rm 0 0 n ∧ (Cond.static y).before args s = true) (hn : As.length = n) (hst : (st.map fun v => v.category).sum ≤ 8) (hcs : cells ≤ R.cells ∧ slots ≤ R.slots) (hdg : decode cc pc = .ok (.invokestatic index, 3)) {st0 : List Value} (hs0 : st0 = As.reverse ++ st) (kk : V p l e R s m args below meth c nL A G Y cells slots Q τ (pc + 3) L (.long r0 :: st)) : V p l e R s m args below meth c nL A G Y cells slots Q σ pc L st0 := by
  intro H locs ls hW hS hl
  have hF := wA_in hW hS hC.2.2.2.2.1
  refine va_calll (va_runS (As := As) (rest := st) hC.1 (hM H.size) cw ⟨pc_blind hX, pc_at hX hW hS hC.2.2.2.2.1 hC.2.2.2.1 hC.2.2.2.2.2⟩ rfl hn hl.1 hs0 (lv_room hst) hdg hcs) hS (fun q _ h => hF q h) hF (fun r u t H1 locs1 ht hvm hw hB hz hk hS1 => ?_)
  obtain ⟨rfl, rfl⟩ := hw
  exact kk H1 locs1 ls (by rw [← ht]; exact hB.1.weaken hF) hS1 hl
theorem v_callVV (hC : Cx EX G.1 G.2.1 Y cc nL ret own Ts p s m args meth c A) (hX : EXok EX) {C : String} {i ci n index maxL : Nat} {q : vw_C} {y : MethodName} {bytes : ByteArray} {rt : Option FieldType} {ws : List Cond} {rm : Room} {As : List Value} (hM : MV EX l y ws rm G Y (.ref (G.2.2.1 i) :: As) σ τ) (cw : CallW R s args own C index y bytes maxL rt ws rm 0 0 n) (hO : Ob G Y i ci) (hci : ci < 9) (hc : vwCl[ci]? = some q) (hq : q.1 = C) (hn : As.length = n) (hst : (st.map fun v => v.category).sum ≤ 8) (hcs : cells ≤ R.cells ∧ slots ≤ R.slots) (hdg : decode cc pc = .ok (.invokevirtual index, 3)) {st0 : List Value} (hs0 : st0 = As.reverse ++ .ref (G.2.2.1 i) :: st) (kk : V p l e R s m args below meth c nL A G Y cells slots Q τ (pc + 3) L st) : V p l e R s m args below meth c nL A G Y cells slots Q σ pc L st0 := by
  intro H locs ls hW hS hl
  obtain ⟨q0, hq0⟩ := wl_at (Y := Y) (σ := σ) hO.1
  rw [cont_obj hO.2 hci] at hq0
  have hF := wA_in hW hS hC.2.2.2.2.1
  refine va_callv (va_runV (As := As) (rest := st) hC.1 (hM H.size) cw ⟨pc_blind hX, by rw [← hq]; exact va_recv hC.2.2.2.1 hW.1 hc hq0, pc_at hX hW hS hC.2.2.2.2.1 hC.2.2.2.1 hC.2.2.2.2.2⟩ rfl hn hl.1 hs0 (lv_room hst) hdg hcs) hS (fun q _ h => hF q h) hF (fun u t H1 locs1 ht hvm hw hB hz hk hS1 => ?_)
  subst hw
  exact kk H1 locs1 ls (by rw [← ht]; exact hB.1.weaken hF) hS1 hl
theorem v_callSV (hC : Cx EX G.1 G.2.1 Y cc nL ret own Ts p s m args meth c A) (hX : EXok EX) {n index maxL : Nat} {y : MethodName} {bytes : ByteArray} {rt : Option FieldType} {ws : List Cond} {rm : Room} {As : List Value} (hM : MV EX l y ws rm G Y As σ τ) (cw : CallB R s args own index y bytes maxL rt ws rm 0 0 n ∧ (Cond.static y).before args s = true) (hn : As.length = n) (hst : (st.map fun v => v.category).sum ≤ 8) (hcs : cells ≤ R.cells ∧ slots ≤ R.slots) (hdg : decode cc pc = .ok (.invokestatic index, 3)) {st0 : List Value} (hs0 : st0 = As.reverse ++ st) (kk : V p l e R s m args below meth c nL A G Y cells slots Q τ (pc + 3) L st) : V p l e R s m args below meth c nL A G Y cells slots Q σ pc L st0 := by
  intro H locs ls hW hS hl
  have hF := wA_in hW hS hC.2.2.2.2.1
  refine va_callv (va_runS (As := As) (rest := st) hC.1 (hM H.size) cw ⟨pc_blind hX, pc_at hX hW hS hC.2.2.2.2.1 hC.2.2.2.1 hC.2.2.2.2.2⟩ rfl hn hl.1 hs0 (lv_room hst) hdg hcs) hS (fun q _ h => hF q h) hF (fun u t H1 locs1 ht hvm hw hB hz hk hS1 => ?_)
  subst hw
  exact kk H1 locs1 ls (by rw [← ht]; exact hB.1.weaken hF) hS1 hl
theorem v_callVR (hC : Cx EX G.1 G.2.1 Y cc nL ret own Ts p s m args meth c A) (hX : EXok EX) {C : String} {i ci n index maxL : Nat} {q : vw_C} {y : MethodName} {bytes : ByteArray} {rt : Option FieldType} {ws : List Cond} {rm : Room} {As : List Value} {r0 : Option Nat} (hM : MR EX l y ws rm G Y (.ref (G.2.2.1 i) :: As) σ r0 τ) (cw : CallW R s args own C index y bytes maxL rt ws rm 0 0 n) (hO : Ob G Y i ci) (hci : ci < 9) (hc : vwCl[ci]? = some q) (hq : q.1 = C) (hn : As.length = n) (hst : (st.map fun v => v.category).sum ≤ 8) (hcs : cells ≤ R.cells ∧ slots ≤ R.slots) (hdg : decode cc pc = .ok (.invokevirtual index, 3)) {st0 : List Value} (hs0 : st0 = As.reverse ++ .ref (G.2.2.1 i) :: st) (kk : V p l e R s m args below meth c nL A G Y cells slots Q τ (pc + 3) L (rv G.2.2.1 r0 :: st)) : V p l e R s m args below meth c nL A G Y cells slots Q σ pc L st0 := by
  intro H locs ls hW hS hl
  obtain ⟨q0, hq0⟩ := wl_at (Y := Y) (σ := σ) hO.1
  rw [cont_obj hO.2 hci] at hq0
  have hF := wA_in hW hS hC.2.2.2.2.1
  refine va_callq (va_runV (As := As) (rest := st) hC.1 (hM H.size) cw ⟨pc_blind hX, by rw [← hq]; exact va_recv hC.2.2.2.1 hW.1 hc hq0, pc_at hX hW hS hC.2.2.2.2.1 hC.2.2.2.1 hC.2.2.2.2.2⟩ rfl hn hl.1 hs0 (lv_room hst) hdg hcs) hS (fun q _ h => hF q h) hF (fun r u t H1 locs1 ht hvm hw hB hz hk hS1 => ?_)
  obtain ⟨rfl, rfl⟩ := hw
  exact kk H1 locs1 ls (by rw [← ht]; exact hB.1.weaken hF) hS1 hl
theorem v_callSR (hC : Cx EX G.1 G.2.1 Y cc nL ret own Ts p s m args meth c A) (hX : EXok EX) {n index maxL : Nat} {y : MethodName} {bytes : ByteArray} {rt : Option FieldType} {ws : List Cond} {rm : Room} {As : List Value} {r0 : Option Nat} (hM : MR EX l y ws rm G Y As σ r0 τ) (cw : CallB R s args own index y bytes maxL rt ws rm 0 0 n ∧ (Cond.static y).before args s = true) (hn : As.length = n) (hst : (st.map fun v => v.category).sum ≤ 8) (hcs : cells ≤ R.cells ∧ slots ≤ R.slots) (hdg : decode cc pc = .ok (.invokestatic index, 3)) {st0 : List Value} (hs0 : st0 = As.reverse ++ st) (kk : V p l e R s m args below meth c nL A G Y cells slots Q τ (pc + 3) L (rv G.2.2.1 r0 :: st)) : V p l e R s m args below meth c nL A G Y cells slots Q σ pc L st0 := by
  intro H locs ls hW hS hl
  have hF := wA_in hW hS hC.2.2.2.2.1
  refine va_callq (va_runS (As := As) (rest := st) hC.1 (hM H.size) cw ⟨pc_blind hX, pc_at hX hW hS hC.2.2.2.2.1 hC.2.2.2.1 hC.2.2.2.2.2⟩ rfl hn hl.1 hs0 (lv_room hst) hdg hcs) hS (fun q _ h => hF q h) hF (fun r u t H1 locs1 ht hvm hw hB hz hk hS1 => ?_)
  obtain ⟨rfl, rfl⟩ := hw
  exact kk H1 locs1 ls (by rw [← ht]; exact hB.1.weaken hF) hS1 hl
end VC
theorem MI.of {EX : (Nat → Prop) → State → Heap → Prop} {l : Launch} {y : MethodName} {ws ws' : List Cond} {rm : Room} {G : WD} {Y : YD} {As : List Value} {σ τ : HS} {r0 : Int32} {cc : ByteArray} {maxL : Nat} {ret : Option FieldType} (own : String) (hy : plainName y.cls = true) (hw : ws = Cond.code y cc maxL ret :: ws') (hown : y.cls = own) (hlen : (lg_sl As).length ≤ maxL) (hrc : rm.cells = 0) (hrs : rm.slots = 0)
    (body : ∀ (p : Program) (e : Env) (s : State) (m : MethodId) (below : List Frame) (meth : Method) (c : Code), Cx EX G.1 G.2.1 Y cc maxL ret own ws p s m As.toArray meth c (wA G s.heap.size) → V p l e rm s m As.toArray below meth c maxL (wA G s.heap.size) G Y 0 0 (MQ below (QI G Y (wA G s.heap.size) r0 τ) As.toArray s 0 0 (wA G s.heap.size)) σ 0 (lv_args 0 As) []) : MI EX l y ws rm G Y As σ r0 τ := by
  intro sz
  refine Met.ofW (cc := cc) (maxL := maxL) (ret := ret) hy hw ?_
  intro p e s m args below meth c s₁ B hml hv
  obtain ⟨rfl, hsz, hW, hK, hE⟩ := hv
  subst hsz
  have hC : Cx EX G.1 G.2.1 Y cc maxL ret own ws p s m As.toArray meth c (wA G s.heap.size) := ⟨⟨B.exec, B.bytes, hml, by rw [← hown]; exact findClass_of_methodNamed B.named, atoms_spec (ws := ws) B.pre⟩, B.returns, B.notSynchronized, hK, fun q h => Or.inr (Or.inr h), hE⟩
  rw [lg_entry_eq]
  exact body p e s m below meth c hC s.heap [] _ hW.self va_S.rf (lv_entry As hlen)
theorem MJ.of {EX : (Nat → Prop) → State → Heap → Prop} {l : Launch} {y : MethodName} {ws ws' : List Cond} {rm : Room} {G : WD} {Y : YD} {As : List Value} {σ τ : HS} {r0 : Int64} {cc : ByteArray} {maxL : Nat} {ret : Option FieldType} (own : String) (hy : plainName y.cls = true) (hw : ws = Cond.code y cc maxL ret :: ws') (hown : y.cls = own) (hlen : (lg_sl As).length ≤ maxL) (hrc : rm.cells = 0) (hrs : rm.slots = 0)
    (body : ∀ (p : Program) (e : Env) (s : State) (m : MethodId) (below : List Frame) (meth : Method) (c : Code), Cx EX G.1 G.2.1 Y cc maxL ret own ws p s m As.toArray meth c (wA G s.heap.size) → V p l e rm s m As.toArray below meth c maxL (wA G s.heap.size) G Y 0 0 (MQ below (QJ G Y (wA G s.heap.size) r0 τ) As.toArray s 0 0 (wA G s.heap.size)) σ 0 (lv_args 0 As) []) : MJ EX l y ws rm G Y As σ r0 τ := by
  intro sz
  refine Met.ofW (cc := cc) (maxL := maxL) (ret := ret) hy hw ?_
  intro p e s m args below meth c s₁ B hml hv
  obtain ⟨rfl, hsz, hW, hK, hE⟩ := hv
  subst hsz
  have hC : Cx EX G.1 G.2.1 Y cc maxL ret own ws p s m As.toArray meth c (wA G s.heap.size) := ⟨⟨B.exec, B.bytes, hml, by rw [← hown]; exact findClass_of_methodNamed B.named, atoms_spec (ws := ws) B.pre⟩, B.returns, B.notSynchronized, hK, fun q h => Or.inr (Or.inr h), hE⟩
  rw [lg_entry_eq]
  exact body p e s m below meth c hC s.heap [] _ hW.self va_S.rf (lv_entry As hlen)
theorem MV.of {EX : (Nat → Prop) → State → Heap → Prop} {l : Launch} {y : MethodName} {ws ws' : List Cond} {rm : Room} {G : WD} {Y : YD} {As : List Value} {σ τ : HS} {cc : ByteArray} {maxL : Nat} {ret : Option FieldType} (own : String) (hy : plainName y.cls = true) (hw : ws = Cond.code y cc maxL ret :: ws') (hown : y.cls = own) (hlen : (lg_sl As).length ≤ maxL) (hrc : rm.cells = 0) (hrs : rm.slots = 0)
    (body : ∀ (p : Program) (e : Env) (s : State) (m : MethodId) (below : List Frame) (meth : Method) (c : Code), Cx EX G.1 G.2.1 Y cc maxL ret own ws p s m As.toArray meth c (wA G s.heap.size) → V p l e rm s m As.toArray below meth c maxL (wA G s.heap.size) G Y 0 0 (MQ below (QV G Y (wA G s.heap.size) τ) As.toArray s 0 0 (wA G s.heap.size)) σ 0 (lv_args 0 As) []) : MV EX l y ws rm G Y As σ τ := by
  intro sz
  refine Met.ofW (cc := cc) (maxL := maxL) (ret := ret) hy hw ?_
  intro p e s m args below meth c s₁ B hml hv
  obtain ⟨rfl, hsz, hW, hK, hE⟩ := hv
  subst hsz
  have hC : Cx EX G.1 G.2.1 Y cc maxL ret own ws p s m As.toArray meth c (wA G s.heap.size) := ⟨⟨B.exec, B.bytes, hml, by rw [← hown]; exact findClass_of_methodNamed B.named, atoms_spec (ws := ws) B.pre⟩, B.returns, B.notSynchronized, hK, fun q h => Or.inr (Or.inr h), hE⟩
  rw [lg_entry_eq]
  exact body p e s m below meth c hC s.heap [] _ hW.self va_S.rf (lv_entry As hlen)
theorem MR.of {EX : (Nat → Prop) → State → Heap → Prop} {l : Launch} {y : MethodName} {ws ws' : List Cond} {rm : Room} {G : WD} {Y : YD} {As : List Value} {σ τ : HS} {r0 : Option Nat} {cc : ByteArray} {maxL : Nat} {ret : Option FieldType} (own : String) (hy : plainName y.cls = true) (hw : ws = Cond.code y cc maxL ret :: ws') (hown : y.cls = own) (hlen : (lg_sl As).length ≤ maxL) (hrc : rm.cells = 0) (hrs : rm.slots = 0)
    (body : ∀ (p : Program) (e : Env) (s : State) (m : MethodId) (below : List Frame) (meth : Method) (c : Code), Cx EX G.1 G.2.1 Y cc maxL ret own ws p s m As.toArray meth c (wA G s.heap.size) → V p l e rm s m As.toArray below meth c maxL (wA G s.heap.size) G Y 0 0 (MQ below (QR G Y (wA G s.heap.size) r0 τ) As.toArray s 0 0 (wA G s.heap.size)) σ 0 (lv_args 0 As) []) : MR EX l y ws rm G Y As σ r0 τ := by
  intro sz
  refine Met.ofW (cc := cc) (maxL := maxL) (ret := ret) hy hw ?_
  intro p e s m args below meth c s₁ B hml hv
  obtain ⟨rfl, hsz, hW, hK, hE⟩ := hv
  subst hsz
  have hC : Cx EX G.1 G.2.1 Y cc maxL ret own ws p s m As.toArray meth c (wA G s.heap.size) := ⟨⟨B.exec, B.bytes, hml, by rw [← hown]; exact findClass_of_methodNamed B.named, atoms_spec (ws := ws) B.pre⟩, B.returns, B.notSynchronized, hK, fun q h => Or.inr (Or.inr h), hE⟩
  rw [lg_entry_eq]
  exact body p e s m below meth c hC s.heap [] _ hW.self va_S.rf (lv_entry As hlen)
/-! THE LAYOUTS -/
def xKl : List Nat := [7, 0, 9, 0, 9, 0, 9, 12, 12, 1, 4, 14, 5, 9, 2, 13, 9, 10, 4, 99, 6, 9, 9, 9, 6, 9, 9, 9, 6, 9, 9, 9, 6, 9, 9, 9, 6, 9, 9, 9, 6, 9, 9, 9, 3, 9, 3, 9, 3, 9, 3, 9, 1, 4, 1, 4, 1, 4, 1, 4, 1, 4, 1, 4, 1, 4, 1, 4, 1, 4, 1, 4, 1, 4, 1, 4, 1, 4, 1, 4, 1, 4, 1, 4, 1, 4, 1, 4, 1, 4, 1, 4]
def xLl : List Nat := [0, 0, 12, 0, 12, 0, 12, 8, 12, 0, 0, 6, 0, 160, 0, 4, 6, 13, 0, 0, 0, 160, 3, 40, 0, 160, 3, 40, 0, 160, 3, 40, 0, 160, 3, 40, 0, 160, 3, 40, 0, 160, 3, 40, 0, 40, 0, 40, 0, 40, 0, 40]
def xY : YD := (fun i => xKl.getD i 99, fun i => xLl.getD i 0, [(9, .int), (10, .long), (12, .object "HundredBoxes$Plan"), (13, .object "HundredBoxes$Sheet"), (14, .object "HundredBoxes$Text")])
def mKl : List Nat := [8, 9, 9, 9, 9, 9, 9, 10, 9, 9, 11, 9, 9, 9]
def mLl : List Nat := [0, 960, 6, 160, 12, 8, 8, 13, 12, 12, 4, 4, 4, 160]
def mY : YD := (fun i => mKl.getD i 99, fun i => mLl.getD i 0, [(9, .int), (10, .long), (11, .boolean)])
/-- what an object holds for good is there -/
def GX (G : WD) (Y : YD) : Prop := ∀ i, i ∈ G.2.2.2.1 → Y.1 i < 9 → ∀ k, 3 ≤ fcd (Y.1 i) k → i + (fcd (Y.1 i) k - 3) ∈ G.2.2.2.1
theorem xY_all {P : Nat → Nat → Prop} {c : Nat} (hc : c ≠ 99) (h : ∀ i, i < 92 → xKl.getD i 99 = c → P c i) : ∀ i, xY.1 i = c → P c i := by
  intro i hi
  by_cases h2 : i < 92
  · exact h i h2 hi
  · have : xY.1 i = 99 := by
      show xKl.getD i 99 = 99
      rw [List.getD_eq_getElem?_getD, List.getElem?_eq_none (by show xKl.length ≤ i; have : xKl.length = 92 := by decide
                                                                omega)]
      rfl
    omega
theorem mY_all {P : Nat → Nat → Prop} {c : Nat} (hc : c ≠ 99) (h : ∀ i, i < 14 → mKl.getD i 99 = c → P c i) : ∀ i, mY.1 i = c → P c i := by
  intro i hi
  by_cases h2 : i < 14
  · exact h i h2 hi
  · have : mY.1 i = 99 := by
      show mKl.getD i 99 = 99
      rw [List.getD_eq_getElem?_getD, List.getElem?_eq_none (by show mKl.length ≤ i; have : mKl.length = 14 := by decide
                                                                omega)]
      rfl
    omega
theorem ob_of {G : WD} {Y : YD} {i c k n : Nat} (hG : GX G Y) (h : Ob G Y i c) (hc : c < 9) (hk : fcd c k = n + 3) : i + n ∈ G.2.2.2.1 := by
  have := hG i h.1 (by rw [h.2]; exact hc) k (by rw [h.2, hk]; omega)
  rw [h.2, hk] at this
  exact this
theorem wt_ob {G : WD} {Y : YD} {σ : HS} {i c k j : Nat} (hw : wt G Y σ) (hO : Ob G Y i c) (h : gR σ i k = some j) : Ob G Y j (rkd c k) := by
  have := hw i hO.1 k j h
  rw [hO.2] at this
  exact this
/-! WHAT ELSE STANDS: nest mates' links, the table, the texts -/
def nestW : List Cond := [.fieldLinkNest RX8 124 RX0 "size" "I" RX8, .fieldLinkNest RX1 33 RX0 "size" "I" RX8, .fieldLinkNest RX8 161 RX0 "ringCount" "I" RX8, .fieldLinkNest RX8 164 RX0 "longest" "I" RX8, .fieldLinkNest RX8 167 RX0 "missing" "I" RX8, .fieldLinkNest RX8 232 RX4 "wins" "I" RX8, .fieldLinkNest RX8 247 RX4 "least" "I" RX8, .fieldLinkNest RX8 250 RX4 "leastDigits" "I" RX8, .fieldLinkNest RX8 239 RX4 "sum" "J" RX8, .fieldLinkNest RX8 322 RX1 "number" "I" RX8, .fieldLinkNest RX8 274 RX1 "tally" "LHundredBoxes$Tally;" RX8, .fieldLinkNest RX8 170 RX5 "size" "I" RX8, .fieldLinkNest RX8 307 RX3 "cells" "[I" RX8, .fieldLinkNest RX8 300 RX3 "sort" "I" RX8, .fieldLinkNest RX8 135 RX3 "size" "I" RX8]
def nestM : List (String × Nat × MethodName) := [(RX8, 9, yX0_init), (RX1, 11, yX4_init), (RX8, 60, yX5_init), (RX8, 67, yX2_init), (RX8, 91, yX4_init), (RX8, 100, yX3_init), (RX8, 101, yX6_init)]
def tabF (j : Nat) : Int32 := ([-1, 0, 0, 2, 2, 1] : List Int32).getD j 0
def xTx : List String := ["found", "men", "looks", "missing", "rings", "longest", "home", "some", "bet", "or", "and", "not", "home found = men ; some 0 ; bet men - longest ;"]
def xIx : List Nat := [97, 103, 105, 107, 109, 111, 113, 115, 117, 119, 121, 123, 102]
def xOw (i : Nat) : String := if i < 12 then RX2 else RX8
def xByt : List (List Int32) := [[102, 111, 117, 110, 100], [109, 101, 110], [108, 111, 111, 107, 115], [109, 105, 115, 115, 105, 110, 103], [114, 105, 110, 103, 115], [108, 111, 110, 103, 101, 115, 116], [104, 111, 109, 101], [115, 111, 109, 101], [98, 101, 116], [111, 114], [97, 110, 100], [110, 111, 116],
  [104, 111, 109, 101, 32, 102, 111, 117, 110, 100, 32, 61, 32, 109, 101, 110, 32, 59, 32, 115, 111, 109, 101, 32, 48, 32, 59, 32, 98, 101, 116, 32, 109, 101, 110, 32, 45, 32, 108, 111, 110, 103, 101, 115, 116, 32, 59]]
def xLen : List Nat := [5, 3, 5, 7, 5, 7, 4, 4, 3, 2, 3, 3, 47]
def sLn (w : Nat) : Int32 := nI (xLen.getD w 0)
def sCh (w k : Nat) : Int32 := (xByt.getD w []).getD k 0
def sIn (w : Nat) (i : Int32) : Bool := inb i (xLen.getD w 0)
def xE (adK adV : Nat → Nat) (tb : Nat) (A : Nat → Prop) (U : State) (H : Heap) : Prop :=
  ((∀ w ∈ nestW, va_Nw w U) ∧ ∀ q ∈ nestM, va_Nw (.methodLinkNest q.1 q.2.1 q.2.2 RX8) U) ∧ (va_Z RX1 "ABOVE" "[I" (.ref tb) A U H ∧ va_T .int tb 6 (fun j => .int (tabF j)) A U H) ∧ (vk_S 13 xLen xByt adK adV A U H ∧ ∀ i, i < 13 → vk_R (xOw i) (xIx.getD i 0) (xTx.getD i "") (adK i) U) ∧ va_Z RJ0 "COMPACT_STRINGS" "Z" (.int 1) A U H ∧ va_Zq RJ3 "SIOOBE_FORMATTER" "Ljava/util/function/BiFunction;" A U H ∧ va_AO RX1 U ∧ va_AO RX6 U ∧ va_AO RX3 U
def mE (_ : Nat → Prop) (_ : State) (_ : Heap) : Prop := True
theorem mE_ok : EXok mE := ⟨fun _ _ _ _ _ h => h, fun _ _ _ _ _ h => h, fun _ _ _ _ _ h => h, fun _ _ _ _ _ h => h⟩
theorem nestW_warm {s U : State} (hW : s.WarmedH U.vm) : ∀ w ∈ nestW, va_Nw w s → va_Nw w U := by
  intro w hw h
  simp only [nestW, List.mem_cons, List.not_mem_nil, or_false] at hw
  rcases hw with rfl | rfl | rfl | rfl | rfl | rfl | rfl | rfl | rfl | rfl | rfl | rfl | rfl | rfl | rfl <;> exact va_Nw.warmF hW h
theorem nestW_same {u U : State} (hv : u.vm = U.vm) : ∀ w ∈ nestW, va_Nw w u → va_Nw w U := by
  intro w hw h
  simp only [nestW, List.mem_cons, List.not_mem_nil, or_false] at hw
  rcases hw with rfl | rfl | rfl | rfl | rfl | rfl | rfl | rfl | rfl | rfl | rfl | rfl | rfl | rfl | rfl <;> exact va_Nw.same rfl hv h
theorem xE_ok {adK adV : Nat → Nat} {tb : Nat} : EXok (xE adK adV tb) := by
  refine ⟨fun A s U H hW h => ?_, fun A u U H hv h => ?_, fun A U H H1 hq h => ?_, fun A B U H hAB h => ?_⟩
  · obtain ⟨⟨h1, h1m⟩, ⟨h2, h3⟩, ⟨h4, h5⟩, h6, h7, h8, h9, h10⟩ := h
    exact ⟨⟨fun w hw => nestW_warm hW w hw (h1 w hw), fun q hq => va_Nw.warmM hW (h1m q hq)⟩, ⟨h2.moved hW.alike, h3.moved hW.alike⟩, ⟨h4.moved hW.alike, fun i hi => (h5 i hi).warm hW⟩, h6.moved hW.alike, h7.moved hW.alike, h8.moved hW.alike, h9.moved hW.alike, h10.moved hW.alike⟩
  · obtain ⟨⟨h1, h1m⟩, ⟨h2, h3⟩, ⟨h4, h5⟩, h6, h7, h8, h9, h10⟩ := h
    have hal : u.vm.Alike U.vm := by rw [hv]; exact Vm.Alike.refl _
    exact ⟨⟨fun w hw => nestW_same hv.symm w hw (h1 w hw), fun q hq => va_Nw.same rfl hv.symm (h1m q hq)⟩, ⟨h2.moved hal, h3.moved hal⟩, ⟨h4.moved hal, fun i hi => (h5 i hi).same hv⟩, h6.moved hal, h7.moved hal, h8.moved hal, h9.moved hal, h10.moved hal⟩
  · obtain ⟨⟨h1, h1m⟩, ⟨h2, h3⟩, ⟨h4, h5⟩, h6, h7, h8, h9, h10⟩ := h
    exact ⟨⟨h1, h1m⟩, ⟨h2.kept hq, h3.kept hq⟩, ⟨h4.kept hq, h5⟩, h6.kept hq, h7.kept hq, h8, h9, h10⟩
  · obtain ⟨⟨h1, h1m⟩, ⟨h2, h3⟩, ⟨h4, h5⟩, h6, h7, h8, h9, h10⟩ := h
    exact ⟨⟨h1, h1m⟩, ⟨h2.narrow hAB, h3.narrow hAB⟩, ⟨h4.narrow hAB, h5⟩, h6.narrow hAB, h7.narrow hAB, h8, h9, h10⟩
theorem xE_tab {adK adV : Nat → Nat} {tb : Nat} {A : Nat → Prop} {U : State} {H : Heap} (h : xE adK adV tb A U H) : va_Z RX1 "ABOVE" "[I" (.ref tb) A U H ∧ va_T .int tb 6 (fun j => .int (tabF j)) A U H := h.2.1
section VE
variable {EX : (Nat → Prop) → State → Heap → Prop} {p : Program} {l : Launch} {e : Env} {R : Room} {s : State} {m : MethodId} {args : Array Value} {below : List Frame} {meth : Method} {c : Code} {nL : Nat} {A : Nat → Prop} {G : WD} {Y : YD} {cells slots : Nat} {Q : State → Prop} {σ τ : HS} {pc : Nat} {L L' : List (Nat × Value)} {st : List Value} {cc : ByteArray} {ret : Option FieldType} {own : String} {Ts : List Cond} {adK adV : Nat → Nat} {tb : Nat}
theorem v_wt (k : wt G Y σ → V p l e R s m args below meth c nL A G Y cells slots Q σ pc L st) : V p l e R s m args below meth c nL A G Y cells slots Q σ pc L st := fun H locs ls hW hS hl => k hW.2.2 H locs ls hW hS hl
theorem v_tabIn {x v : Int32} {dflt lo hi : Int} {offs : Array Int} {len : Nat} {off : Int} {tgt : Nat} (hx : x = v) (hC : Cx EX G.1 G.2.1 Y cc nL ret own Ts p s m args meth c A) (hdg : decode cc pc = .ok (.tableswitch dflt lo hi offs, len)) (h1 : ¬ v.toInt < lo) (h2 : ¬ hi < v.toInt) (ho : offs[(v.toInt - lo).toNat]? = some off) (ht : (pc : Int) + off = (tgt : Int)) (k : V p l e R s m args below meth c nL A G Y cells slots Q σ tgt L st) : V p l e R s m args below meth c nL A G Y cells slots Q σ pc L (.int x :: st) := by
  subst hx
  exact v_tableIn hC hdg h1 h2 ho ht k
theorem v_tabOut {x : Int32} {dflt lo hi : Int} {offs : Array Int} {len : Nat} {tgt : Nat} (vs : List Nat) (hC : Cx EX G.1 G.2.1 Y cc nL ret own Ts p s m args meth c A) (hdg : decode cc pc = .ok (.tableswitch dflt lo hi offs, len)) (hs : (hi - lo + 1).toNat ≤ offs.size ∧ ∀ k, k < offs.size → k ∉ vs → offs[k]? = some dflt) (hk : ∀ k, k ∈ vs → x.toInt ≠ lo + (k : Int)) (ht : (pc : Int) + dflt = (tgt : Int)) (k : V p l e R s m args below meth c nL A G Y cells slots Q σ tgt L st) : V p l e R s m args below meth c nL A G Y cells slots Q σ pc L (.int x :: st) := by
  by_cases h1 : x.toInt < lo
  · exact v_tableOut hC hdg (Or.inl h1) ht k
  · by_cases h2 : hi < x.toInt
    · exact v_tableOut hC hdg (Or.inr h2) ht k
    · have hn : (x.toInt - lo).toNat ∉ vs := fun h => hk _ h (by omega)
      exact v_tableIn hC hdg h1 h2 (hs.2 _ (by omega) hn) ht k
theorem v_ldcS {tx : String} {index q : Nat} (hC : Cx EX G.1 G.2.1 Y cc nL ret own Ts p s m args meth c A) (hZ : vk_R own index tx q s) (hdg : decode cc pc = .ok (.ldc index, 2)) (k : V p l e R s m args below meth c nL A G Y cells slots Q σ (pc + 2) L (.ref q :: st)) : V p l e R s m args below meth c nL A G Y cells slots Q σ pc L st := fun H locs ls hW hS hl => va_ldcS hC.1.1 hC.1.2.1 hC.1.2.2.2.1 hZ hdg (k H locs ls hW hS hl)
theorem v_getTab {index t : Nat} {C n d : String} (hC : Cx EX G.1 G.2.1 Y cc nL ret own Ts p s m args meth c A) (hZ : va_Z C n d (.ref t) A s s.heap) (hlink : Cond.fieldLink own index C n d ∈ Ts) (hdg : decode cc pc = .ok (.getstatic index, 3)) (k : V p l e R s m args below meth c nL A G Y cells slots Q σ (pc + 3) L (.ref t :: st)) : V p l e R s m args below meth c nL A G Y cells slots Q σ pc L st := fun H locs ls hW hS hl => va_gets hC.1.1 hC.1.2.1 hZ hS hC.1.2.2.2.1 (hC.1.2.2.2.2 _ hlink) (fun _ h => h) hdg (k H locs ls hW hS hl)
theorem v_tabLd {t N : Nat} {f : Nat → Int32} {i : Int32} (hC : Cx EX G.1 G.2.1 Y cc nL ret own Ts p s m args meth c A) (hT : va_T .int t N (fun j => .int (f j)) A s s.heap) (hin : inb i N = true) (hdg : decode cc pc = .ok (.iaload, 1)) (k : V p l e R s m args below meth c nL A G Y cells slots Q σ (pc + 1) L (.int (f (ix i)) :: st)) : V p l e R s m args below meth c nL A G Y cells slots Q σ pc L (.int i :: .ref t :: st) := fun H locs ls hW hS hl => va_ti hC.1.1 hC.1.2.1 hT hS (inb_vp hin) rfl hdg (k H locs ls hW hS hl)
theorem v_tabLen {t N : Nat} {f : Nat → Value} {v : Int32} (hC : Cx EX G.1 G.2.1 Y cc nL ret own Ts p s m args meth c A) (hT : va_T .int t N f A s s.heap) (hv : Int32.ofNat N = v) (hdg : decode cc pc = .ok (.arraylength, 1)) (k : V p l e R s m args below meth c nL A G Y cells slots Q σ (pc + 1) L (.int v :: st)) : V p l e R s m args below meth c nL A G Y cells slots Q σ pc L (.ref t :: st) := fun H locs ls hW hS hl => va_tlen hC.1.1 hC.1.2.1 hT hS hv hdg (k H locs ls hW hS hl)
/-- a call on a text -/
theorem v_callSI_str {w n index maxL : Nat} {r0 : Int32} {y : MethodName} {bytes : ByteArray} {rt : Option FieldType} {ws : List Cond} {rm : Room} {As : List Value} (hC : Cx (xE adK adV tb) G.1 G.2.1 Y cc nL ret own Ts p s m args meth c A) (hX : EXok (xE adK adV tb)) (hM : MI (xE adK adV tb) l y ws rm G Y (.ref (adK w) :: As) σ r0 τ) (cw : CallW R s args own RJ0 index y bytes maxL rt ws rm 0 0 n) (hw : w < 13) (hn : As.length = n) (hst : (st.map fun v => v.category).sum ≤ 8) (hcs : cells ≤ R.cells ∧ slots ≤ R.slots) (hdg : decode cc pc = .ok (.invokevirtual index, 3)) {st0 : List Value} (hs0 : st0 = As.reverse ++ .ref (adK w) :: st) (kk : V p l e R s m args below meth c nL A G Y cells slots Q τ (pc + 3) L (.int r0 :: st)) : V p l e R s m args below meth c nL A G Y cells slots Q σ pc L st0 := by
  intro H locs ls hW hS hl
  have hF := wA_in hW hS hC.2.2.2.2.1
  refine va_calli (va_runV (As := As) (rest := st) hC.1 (hM H.size) cw ⟨pc_blind hX, vk_recv hC.2.2.2.2.2.2.2.1.1 hw hS, pc_at hX hW hS hC.2.2.2.2.1 hC.2.2.2.1 hC.2.2.2.2.2⟩ rfl hn hl.1 hs0 (lv_room hst) hdg hcs) hS (fun q _ h => hF q h) hF (fun r u t H1 locs1 ht hvm hw hB hz hk hS1 => ?_)
  obtain ⟨rfl, rfl⟩ := hw
  exact kk H1 locs1 ls (by rw [← ht]; exact hB.1.weaken hF) hS1 hl
end VE
theorem xE_nf_X8_124 {adK adV : Nat → Nat} {tb : Nat} {A : Nat → Prop} {U : State} {H : Heap} (h : xE adK adV tb A U H) : va_Nw (Cond.fieldLinkNest RX8 124 RX0 (TX0 1).2.1 (TX0 1).2.2.1 RX8) U := h.1.1 _ (List.mem_of_getElem? (i := 0) rfl)
theorem xE_nf_X1_33 {adK adV : Nat → Nat} {tb : Nat} {A : Nat → Prop} {U : State} {H : Heap} (h : xE adK adV tb A U H) : va_Nw (Cond.fieldLinkNest RX1 33 RX0 (TX0 1).2.1 (TX0 1).2.2.1 RX8) U := h.1.1 _ (List.mem_of_getElem? (i := 1) rfl)
theorem xE_nf_X8_161 {adK adV : Nat → Nat} {tb : Nat} {A : Nat → Prop} {U : State} {H : Heap} (h : xE adK adV tb A U H) : va_Nw (Cond.fieldLinkNest RX8 161 RX0 (TX0 2).2.1 (TX0 2).2.2.1 RX8) U := h.1.1 _ (List.mem_of_getElem? (i := 2) rfl)
theorem xE_nf_X8_164 {adK adV : Nat → Nat} {tb : Nat} {A : Nat → Prop} {U : State} {H : Heap} (h : xE adK adV tb A U H) : va_Nw (Cond.fieldLinkNest RX8 164 RX0 (TX0 3).2.1 (TX0 3).2.2.1 RX8) U := h.1.1 _ (List.mem_of_getElem? (i := 3) rfl)
theorem xE_nf_X8_167 {adK adV : Nat → Nat} {tb : Nat} {A : Nat → Prop} {U : State} {H : Heap} (h : xE adK adV tb A U H) : va_Nw (Cond.fieldLinkNest RX8 167 RX0 (TX0 4).2.1 (TX0 4).2.2.1 RX8) U := h.1.1 _ (List.mem_of_getElem? (i := 4) rfl)
theorem xE_nf_X8_232 {adK adV : Nat → Nat} {tb : Nat} {A : Nat → Prop} {U : State} {H : Heap} (h : xE adK adV tb A U H) : va_Nw (Cond.fieldLinkNest RX8 232 RX4 (TX4 3).2.1 (TX4 3).2.2.1 RX8) U := h.1.1 _ (List.mem_of_getElem? (i := 5) rfl)
theorem xE_nf_X8_247 {adK adV : Nat → Nat} {tb : Nat} {A : Nat → Prop} {U : State} {H : Heap} (h : xE adK adV tb A U H) : va_Nw (Cond.fieldLinkNest RX8 247 RX4 (TX4 4).2.1 (TX4 4).2.2.1 RX8) U := h.1.1 _ (List.mem_of_getElem? (i := 6) rfl)
theorem xE_nf_X8_250 {adK adV : Nat → Nat} {tb : Nat} {A : Nat → Prop} {U : State} {H : Heap} (h : xE adK adV tb A U H) : va_Nw (Cond.fieldLinkNest RX8 250 RX4 (TX4 5).2.1 (TX4 5).2.2.1 RX8) U := h.1.1 _ (List.mem_of_getElem? (i := 7) rfl)
theorem xE_nf_X8_239 {adK adV : Nat → Nat} {tb : Nat} {A : Nat → Prop} {U : State} {H : Heap} (h : xE adK adV tb A U H) : va_Nw (Cond.fieldLinkNest RX8 239 RX4 (TX4 6).2.1 (TX4 6).2.2.1 RX8) U := h.1.1 _ (List.mem_of_getElem? (i := 8) rfl)
theorem xE_nf_X8_322 {adK adV : Nat → Nat} {tb : Nat} {A : Nat → Prop} {U : State} {H : Heap} (h : xE adK adV tb A U H) : va_Nw (Cond.fieldLinkNest RX8 322 RX1 (TX1 1).2.1 (TX1 1).2.2.1 RX8) U := h.1.1 _ (List.mem_of_getElem? (i := 9) rfl)
theorem xE_nf_X8_274 {adK adV : Nat → Nat} {tb : Nat} {A : Nat → Prop} {U : State} {H : Heap} (h : xE adK adV tb A U H) : va_Nw (Cond.fieldLinkNest RX8 274 RX1 (TX1 2).2.1 (TX1 2).2.2.1 RX8) U := h.1.1 _ (List.mem_of_getElem? (i := 10) rfl)
theorem xE_nf_X8_170 {adK adV : Nat → Nat} {tb : Nat} {A : Nat → Prop} {U : State} {H : Heap} (h : xE adK adV tb A U H) : va_Nw (Cond.fieldLinkNest RX8 170 RX5 (TX5 1).2.1 (TX5 1).2.2.1 RX8) U := h.1.1 _ (List.mem_of_getElem? (i := 11) rfl)
theorem xE_nf_X8_307 {adK adV : Nat → Nat} {tb : Nat} {A : Nat → Prop} {U : State} {H : Heap} (h : xE adK adV tb A U H) : va_Nw (Cond.fieldLinkNest RX8 307 RX3 (TX3 0).2.1 (TX3 0).2.2.1 RX8) U := h.1.1 _ (List.mem_of_getElem? (i := 12) rfl)
theorem xE_nf_X8_300 {adK adV : Nat → Nat} {tb : Nat} {A : Nat → Prop} {U : State} {H : Heap} (h : xE adK adV tb A U H) : va_Nw (Cond.fieldLinkNest RX8 300 RX3 (TX3 1).2.1 (TX3 1).2.2.1 RX8) U := h.1.1 _ (List.mem_of_getElem? (i := 13) rfl)
theorem xE_nf_X8_135 {adK adV : Nat → Nat} {tb : Nat} {A : Nat → Prop} {U : State} {H : Heap} (h : xE adK adV tb A U H) : va_Nw (Cond.fieldLinkNest RX8 135 RX3 (TX3 2).2.1 (TX3 2).2.2.1 RX8) U := h.1.1 _ (List.mem_of_getElem? (i := 14) rfl)
theorem xE_str0 {adK adV : Nat → Nat} {tb : Nat} {A : Nat → Prop} {U : State} {H : Heap} (h : xE adK adV tb A U H) : vk_R RX2 97 (xTx.getD 0 "") (adK 0) U := h.2.2.1.2 0 (by decide)
theorem xE_str1 {adK adV : Nat → Nat} {tb : Nat} {A : Nat → Prop} {U : State} {H : Heap} (h : xE adK adV tb A U H) : vk_R RX2 103 (xTx.getD 1 "") (adK 1) U := h.2.2.1.2 1 (by decide)
theorem xE_str2 {adK adV : Nat → Nat} {tb : Nat} {A : Nat → Prop} {U : State} {H : Heap} (h : xE adK adV tb A U H) : vk_R RX2 105 (xTx.getD 2 "") (adK 2) U := h.2.2.1.2 2 (by decide)
theorem xE_str3 {adK adV : Nat → Nat} {tb : Nat} {A : Nat → Prop} {U : State} {H : Heap} (h : xE adK adV tb A U H) : vk_R RX2 107 (xTx.getD 3 "") (adK 3) U := h.2.2.1.2 3 (by decide)
theorem xE_str4 {adK adV : Nat → Nat} {tb : Nat} {A : Nat → Prop} {U : State} {H : Heap} (h : xE adK adV tb A U H) : vk_R RX2 109 (xTx.getD 4 "") (adK 4) U := h.2.2.1.2 4 (by decide)
theorem xE_str5 {adK adV : Nat → Nat} {tb : Nat} {A : Nat → Prop} {U : State} {H : Heap} (h : xE adK adV tb A U H) : vk_R RX2 111 (xTx.getD 5 "") (adK 5) U := h.2.2.1.2 5 (by decide)
theorem xE_str6 {adK adV : Nat → Nat} {tb : Nat} {A : Nat → Prop} {U : State} {H : Heap} (h : xE adK adV tb A U H) : vk_R RX2 113 (xTx.getD 6 "") (adK 6) U := h.2.2.1.2 6 (by decide)
theorem xE_str7 {adK adV : Nat → Nat} {tb : Nat} {A : Nat → Prop} {U : State} {H : Heap} (h : xE adK adV tb A U H) : vk_R RX2 115 (xTx.getD 7 "") (adK 7) U := h.2.2.1.2 7 (by decide)
theorem xE_str8 {adK adV : Nat → Nat} {tb : Nat} {A : Nat → Prop} {U : State} {H : Heap} (h : xE adK adV tb A U H) : vk_R RX2 117 (xTx.getD 8 "") (adK 8) U := h.2.2.1.2 8 (by decide)
theorem xE_str9 {adK adV : Nat → Nat} {tb : Nat} {A : Nat → Prop} {U : State} {H : Heap} (h : xE adK adV tb A U H) : vk_R RX2 119 (xTx.getD 9 "") (adK 9) U := h.2.2.1.2 9 (by decide)
theorem xE_str10 {adK adV : Nat → Nat} {tb : Nat} {A : Nat → Prop} {U : State} {H : Heap} (h : xE adK adV tb A U H) : vk_R RX2 121 (xTx.getD 10 "") (adK 10) U := h.2.2.1.2 10 (by decide)
theorem xE_str11 {adK adV : Nat → Nat} {tb : Nat} {A : Nat → Prop} {U : State} {H : Heap} (h : xE adK adV tb A U H) : vk_R RX2 123 (xTx.getD 11 "") (adK 11) U := h.2.2.1.2 11 (by decide)
theorem xE_str12 {adK adV : Nat → Nat} {tb : Nat} {A : Nat → Prop} {U : State} {H : Heap} (h : xE adK adV tb A U H) : vk_R RX8 102 (xTx.getD 12 "") (adK 12) U := h.2.2.1.2 12 (by decide)
theorem obX_0_0 {G : WD} (hG : GX G xY) {i : Nat} (h : Ob G xY i 0) : Ob G xY (i + 1) 9 ∧ xY.2.1 (i + 1) = 12 := by
  have e := xY_all (P := fun _ i => xKl.getD (i + 1) 99 = 9 ∧ xLl.getD (i + 1) 0 = 12) (by decide) (by decide +kernel) i h.2
  exact ⟨⟨ob_of (k := 0) hG h (by decide) rfl, e.1⟩, e.2⟩
theorem obX_1_2 {G : WD} (hG : GX G xY) {i : Nat} (h : Ob G xY i 1) : Ob G xY (i + 1) 4 :=
  ⟨ob_of (k := 2) hG h (by decide) rfl, xY_all (P := fun _ i => xKl.getD (i + 1) 99 = 4) (by decide) (by decide +kernel) i h.2⟩
theorem obX_3_0 {G : WD} (hG : GX G xY) {i : Nat} (h : Ob G xY i 3) : Ob G xY (i + 1) 9 ∧ xY.2.1 (i + 1) = 40 := by
  have e := xY_all (P := fun _ i => xKl.getD (i + 1) 99 = 9 ∧ xLl.getD (i + 1) 0 = 40) (by decide) (by decide +kernel) i h.2
  exact ⟨⟨ob_of (k := 0) hG h (by decide) rfl, e.1⟩, e.2⟩
theorem obX_5_0 {G : WD} (hG : GX G xY) {i : Nat} (h : Ob G xY i 5) : Ob G xY (i + 1) 9 ∧ xY.2.1 (i + 1) = 160 := by
  have e := xY_all (P := fun _ i => xKl.getD (i + 1) 99 = 9 ∧ xLl.getD (i + 1) 0 = 160) (by decide) (by decide +kernel) i h.2
  exact ⟨⟨ob_of (k := 0) hG h (by decide) rfl, e.1⟩, e.2⟩
theorem obX_6_0 {G : WD} (hG : GX G xY) {i : Nat} (h : Ob G xY i 6) : Ob G xY (i + 1) 9 ∧ xY.2.1 (i + 1) = 160 := by
  have e := xY_all (P := fun _ i => xKl.getD (i + 1) 99 = 9 ∧ xLl.getD (i + 1) 0 = 160) (by decide) (by decide +kernel) i h.2
  exact ⟨⟨ob_of (k := 0) hG h (by decide) rfl, e.1⟩, e.2⟩
theorem obX_6_2 {G : WD} (hG : GX G xY) {i : Nat} (h : Ob G xY i 6) : Ob G xY (i + 2) 9 ∧ xY.2.1 (i + 2) = 3 := by
  have e := xY_all (P := fun _ i => xKl.getD (i + 2) 99 = 9 ∧ xLl.getD (i + 2) 0 = 3) (by decide) (by decide +kernel) i h.2
  exact ⟨⟨ob_of (k := 2) hG h (by decide) rfl, e.1⟩, e.2⟩
theorem obX_6_3 {G : WD} (hG : GX G xY) {i : Nat} (h : Ob G xY i 6) : Ob G xY (i + 3) 9 ∧ xY.2.1 (i + 3) = 40 := by
  have e := xY_all (P := fun _ i => xKl.getD (i + 3) 99 = 9 ∧ xLl.getD (i + 3) 0 = 40) (by decide) (by decide +kernel) i h.2
  exact ⟨⟨ob_of (k := 3) hG h (by decide) rfl, e.1⟩, e.2⟩
theorem obX_7_0 {G : WD} (hG : GX G xY) {i : Nat} (h : Ob G xY i 7) : Ob G xY (i + 1) 0 :=
  ⟨ob_of (k := 0) hG h (by decide) rfl, xY_all (P := fun _ i => xKl.getD (i + 1) 99 = 0) (by decide) (by decide +kernel) i h.2⟩
theorem obX_7_3 {G : WD} (hG : GX G xY) {i : Nat} (h : Ob G xY i 7) : Ob G xY (i + 3) 0 :=
  ⟨ob_of (k := 3) hG h (by decide) rfl, xY_all (P := fun _ i => xKl.getD (i + 3) 99 = 0) (by decide) (by decide +kernel) i h.2⟩
theorem obX_7_7 {G : WD} (hG : GX G xY) {i : Nat} (h : Ob G xY i 7) : Ob G xY (i + 7) 12 ∧ xY.2.1 (i + 7) = 8 := by
  have e := xY_all (P := fun _ i => xKl.getD (i + 7) 99 = 12 ∧ xLl.getD (i + 7) 0 = 8) (by decide) (by decide +kernel) i h.2
  exact ⟨⟨ob_of (k := 7) hG h (by decide) rfl, e.1⟩, e.2⟩
theorem obX_7_9 {G : WD} (hG : GX G xY) {i : Nat} (h : Ob G xY i 7) : Ob G xY (i + 8) 12 ∧ xY.2.1 (i + 8) = 12 := by
  have e := xY_all (P := fun _ i => xKl.getD (i + 8) 99 = 12 ∧ xLl.getD (i + 8) 0 = 12) (by decide) (by decide +kernel) i h.2
  exact ⟨⟨ob_of (k := 9) hG h (by decide) rfl, e.1⟩, e.2⟩
theorem obX_7_10 {G : WD} (hG : GX G xY) {i : Nat} (h : Ob G xY i 7) : Ob G xY (i + 9) 1 :=
  ⟨ob_of (k := 10) hG h (by decide) rfl, xY_all (P := fun _ i => xKl.getD (i + 9) 99 = 1) (by decide) (by decide +kernel) i h.2⟩
theorem obX_7_11 {G : WD} (hG : GX G xY) {i : Nat} (h : Ob G xY i 7) : Ob G xY (i + 11) 14 ∧ xY.2.1 (i + 11) = 6 := by
  have e := xY_all (P := fun _ i => xKl.getD (i + 11) 99 = 14 ∧ xLl.getD (i + 11) 0 = 6) (by decide) (by decide +kernel) i h.2
  exact ⟨⟨ob_of (k := 11) hG h (by decide) rfl, e.1⟩, e.2⟩
theorem obX_7_13 {G : WD} (hG : GX G xY) {i : Nat} (h : Ob G xY i 7) : Ob G xY (i + 12) 5 :=
  ⟨ob_of (k := 13) hG h (by decide) rfl, xY_all (P := fun _ i => xKl.getD (i + 12) 99 = 5) (by decide) (by decide +kernel) i h.2⟩
theorem obX_7_14 {G : WD} (hG : GX G xY) {i : Nat} (h : Ob G xY i 7) : Ob G xY (i + 14) 2 :=
  ⟨ob_of (k := 14) hG h (by decide) rfl, xY_all (P := fun _ i => xKl.getD (i + 14) 99 = 2) (by decide) (by decide +kernel) i h.2⟩
theorem obX_7_15 {G : WD} (hG : GX G xY) {i : Nat} (h : Ob G xY i 7) : Ob G xY (i + 15) 13 ∧ xY.2.1 (i + 15) = 4 := by
  have e := xY_all (P := fun _ i => xKl.getD (i + 15) 99 = 13 ∧ xLl.getD (i + 15) 0 = 4) (by decide) (by decide +kernel) i h.2
  exact ⟨⟨ob_of (k := 15) hG h (by decide) rfl, e.1⟩, e.2⟩
theorem obX_7_16 {G : WD} (hG : GX G xY) {i : Nat} (h : Ob G xY i 7) : Ob G xY (i + 5) 0 :=
  ⟨ob_of (k := 16) hG h (by decide) rfl, xY_all (P := fun _ i => xKl.getD (i + 5) 99 = 0) (by decide) (by decide +kernel) i h.2⟩
theorem obX_7_17 {G : WD} (hG : GX G xY) {i : Nat} (h : Ob G xY i 7) : Ob G xY (i + 16) 9 ∧ xY.2.1 (i + 16) = 6 := by
  have e := xY_all (P := fun _ i => xKl.getD (i + 16) 99 = 9 ∧ xLl.getD (i + 16) 0 = 6) (by decide) (by decide +kernel) i h.2
  exact ⟨⟨ob_of (k := 17) hG h (by decide) rfl, e.1⟩, e.2⟩
theorem obX_7_18 {G : WD} (hG : GX G xY) {i : Nat} (h : Ob G xY i 7) : Ob G xY (i + 17) 10 ∧ xY.2.1 (i + 17) = 13 := by
  have e := xY_all (P := fun _ i => xKl.getD (i + 17) 99 = 10 ∧ xLl.getD (i + 17) 0 = 13) (by decide) (by decide +kernel) i h.2
  exact ⟨⟨ob_of (k := 18) hG h (by decide) rfl, e.1⟩, e.2⟩
theorem obX_7_19 {G : WD} (hG : GX G xY) {i : Nat} (h : Ob G xY i 7) : Ob G xY (i + 18) 4 :=
  ⟨ob_of (k := 19) hG h (by decide) rfl, xY_all (P := fun _ i => xKl.getD (i + 18) 99 = 4) (by decide) (by decide +kernel) i h.2⟩
theorem obM_8_1 {G : WD} (hG : GX G mY) {i : Nat} (h : Ob G mY i 8) : Ob G mY (i + 1) 9 ∧ mY.2.1 (i + 1) = 960 := by
  have e := mY_all (P := fun _ i => mKl.getD (i + 1) 99 = 9 ∧ mLl.getD (i + 1) 0 = 960) (by decide) (by decide +kernel) i h.2
  exact ⟨⟨ob_of (k := 1) hG h (by decide) rfl, e.1⟩, e.2⟩
theorem obM_8_2 {G : WD} (hG : GX G mY) {i : Nat} (h : Ob G mY i 8) : Ob G mY (i + 2) 9 ∧ mY.2.1 (i + 2) = 6 := by
  have e := mY_all (P := fun _ i => mKl.getD (i + 2) 99 = 9 ∧ mLl.getD (i + 2) 0 = 6) (by decide) (by decide +kernel) i h.2
  exact ⟨⟨ob_of (k := 2) hG h (by decide) rfl, e.1⟩, e.2⟩
theorem obM_8_5 {G : WD} (hG : GX G mY) {i : Nat} (h : Ob G mY i 8) : Ob G mY (i + 3) 9 ∧ mY.2.1 (i + 3) = 160 := by
  have e := mY_all (P := fun _ i => mKl.getD (i + 3) 99 = 9 ∧ mLl.getD (i + 3) 0 = 160) (by decide) (by decide +kernel) i h.2
  exact ⟨⟨ob_of (k := 5) hG h (by decide) rfl, e.1⟩, e.2⟩
theorem obM_8_7 {G : WD} (hG : GX G mY) {i : Nat} (h : Ob G mY i 8) : Ob G mY (i + 4) 9 ∧ mY.2.1 (i + 4) = 12 := by
  have e := mY_all (P := fun _ i => mKl.getD (i + 4) 99 = 9 ∧ mLl.getD (i + 4) 0 = 12) (by decide) (by decide +kernel) i h.2
  exact ⟨⟨ob_of (k := 7) hG h (by decide) rfl, e.1⟩, e.2⟩
theorem obM_8_24 {G : WD} (hG : GX G mY) {i : Nat} (h : Ob G mY i 8) : Ob G mY (i + 5) 9 ∧ mY.2.1 (i + 5) = 8 := by
  have e := mY_all (P := fun _ i => mKl.getD (i + 5) 99 = 9 ∧ mLl.getD (i + 5) 0 = 8) (by decide) (by decide +kernel) i h.2
  exact ⟨⟨ob_of (k := 24) hG h (by decide) rfl, e.1⟩, e.2⟩
theorem obM_8_25 {G : WD} (hG : GX G mY) {i : Nat} (h : Ob G mY i 8) : Ob G mY (i + 6) 9 ∧ mY.2.1 (i + 6) = 8 := by
  have e := mY_all (P := fun _ i => mKl.getD (i + 6) 99 = 9 ∧ mLl.getD (i + 6) 0 = 8) (by decide) (by decide +kernel) i h.2
  exact ⟨⟨ob_of (k := 25) hG h (by decide) rfl, e.1⟩, e.2⟩
theorem obM_8_30 {G : WD} (hG : GX G mY) {i : Nat} (h : Ob G mY i 8) : Ob G mY (i + 7) 10 ∧ mY.2.1 (i + 7) = 13 := by
  have e := mY_all (P := fun _ i => mKl.getD (i + 7) 99 = 10 ∧ mLl.getD (i + 7) 0 = 13) (by decide) (by decide +kernel) i h.2
  exact ⟨⟨ob_of (k := 30) hG h (by decide) rfl, e.1⟩, e.2⟩
theorem obM_8_31 {G : WD} (hG : GX G mY) {i : Nat} (h : Ob G mY i 8) : Ob G mY (i + 8) 9 ∧ mY.2.1 (i + 8) = 12 := by
  have e := mY_all (P := fun _ i => mKl.getD (i + 8) 99 = 9 ∧ mLl.getD (i + 8) 0 = 12) (by decide) (by decide +kernel) i h.2
  exact ⟨⟨ob_of (k := 31) hG h (by decide) rfl, e.1⟩, e.2⟩
theorem obM_8_36 {G : WD} (hG : GX G mY) {i : Nat} (h : Ob G mY i 8) : Ob G mY (i + 9) 9 ∧ mY.2.1 (i + 9) = 12 := by
  have e := mY_all (P := fun _ i => mKl.getD (i + 9) 99 = 9 ∧ mLl.getD (i + 9) 0 = 12) (by decide) (by decide +kernel) i h.2
  exact ⟨⟨ob_of (k := 36) hG h (by decide) rfl, e.1⟩, e.2⟩
theorem obM_8_41 {G : WD} (hG : GX G mY) {i : Nat} (h : Ob G mY i 8) : Ob G mY (i + 10) 11 ∧ mY.2.1 (i + 10) = 4 := by
  have e := mY_all (P := fun _ i => mKl.getD (i + 10) 99 = 11 ∧ mLl.getD (i + 10) 0 = 4) (by decide) (by decide +kernel) i h.2
  exact ⟨⟨ob_of (k := 41) hG h (by decide) rfl, e.1⟩, e.2⟩
theorem obM_8_42 {G : WD} (hG : GX G mY) {i : Nat} (h : Ob G mY i 8) : Ob G mY (i + 11) 9 ∧ mY.2.1 (i + 11) = 4 := by
  have e := mY_all (P := fun _ i => mKl.getD (i + 11) 99 = 9 ∧ mLl.getD (i + 11) 0 = 4) (by decide) (by decide +kernel) i h.2
  exact ⟨⟨ob_of (k := 42) hG h (by decide) rfl, e.1⟩, e.2⟩
theorem obM_8_43 {G : WD} (hG : GX G mY) {i : Nat} (h : Ob G mY i 8) : Ob G mY (i + 12) 9 ∧ mY.2.1 (i + 12) = 4 := by
  have e := mY_all (P := fun _ i => mKl.getD (i + 12) 99 = 9 ∧ mLl.getD (i + 12) 0 = 4) (by decide) (by decide +kernel) i h.2
  exact ⟨⟨ob_of (k := 43) hG h (by decide) rfl, e.1⟩, e.2⟩
theorem obM_8_44 {G : WD} (hG : GX G mY) {i : Nat} (h : Ob G mY i 8) : Ob G mY (i + 13) 9 ∧ mY.2.1 (i + 13) = 160 := by
  have e := mY_all (P := fun _ i => mKl.getD (i + 13) 99 = 9 ∧ mLl.getD (i + 13) 0 = 160) (by decide) (by decide +kernel) i h.2
  exact ⟨⟨ob_of (k := 44) hG h (by decide) rfl, e.1⟩, e.2⟩
