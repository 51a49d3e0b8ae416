/-! what a state is: int fields, int rows, long fields, long rows, each by its number; checks that end in none -/
abbrev zSt : Type := (Nat → Int32) × (Nat → Nat → Int32) × (Nat → Int64) × (Nat → Nat → Int64)
def zI (s : zSt) : Nat → Int32 := s.1
def zA (s : zSt) : Nat → Nat → Int32 := s.2.1
def zL (s : zSt) : Nat → Int64 := s.2.2.1
def zB (s : zSt) : Nat → Nat → Int64 := s.2.2.2
def zpI (s : zSt) (k : Nat) (v : Int32) : zSt := (upd s.1 k v, s.2)
def zsA (s : zSt) (k : Nat) (f : Nat → Int32) : zSt := (s.1, va_up s.2.1 k f, s.2.2)
def zpL (s : zSt) (k : Nat) (v : Int64) : zSt := (s.1, s.2.1, vp_updL s.2.2.1 k v, s.2.2.2)
def zsB (s : zSt) (k : Nat) (f : Nat → Int64) : zSt := (s.1, s.2.1, s.2.2.1, va_up s.2.2.2 k f)
/-- the state n, but the rows ks as they were in o -/
def zmg (ks : List Nat) (n o : zSt) : zSt := (n.1, fun k => if ks.contains k then o.2.1 k else n.2.1 k, n.2.2.1, fun k => if ks.contains k then o.2.2.2 k else n.2.2.2 k)
theorem zI_mg (ks : List Nat) (n o : zSt) : zI (zmg ks n o) = zI n := rfl
theorem zL_mg (ks : List Nat) (n o : zSt) : zL (zmg ks n o) = zL n := rfl
theorem zA_mg (ks : List Nat) (n o : zSt) (k : Nat) : zA (zmg ks n o) k = if ks.contains k then zA o k else zA n k := rfl
theorem zB_mg (ks : List Nat) (n o : zSt) (k : Nat) : zB (zmg ks n o) k = if ks.contains k then zB o k else zB n k := rfl
theorem zI_pI (s : zSt) (k j : Nat) (v : Int32) : zI (zpI s k v) j = if j = k then v else zI s j := rfl
theorem zI_sA (s : zSt) (k j : Nat) (f : Nat → Int32) : zI (zsA s k f) j = zI s j := rfl
theorem zI_pL (s : zSt) (k j : Nat) (v : Int64) : zI (zpL s k v) j = zI s j := rfl
theorem zI_sB (s : zSt) (k j : Nat) (f : Nat → Int64) : zI (zsB s k f) j = zI s j := rfl
theorem zA_pI (s : zSt) (k j : Nat) (v : Int32) : zA (zpI s k v) j = zA s j := rfl
theorem zA_sA (s : zSt) (k j : Nat) (f : Nat → Int32) : zA (zsA s k f) j = if j = k then f else zA s j := rfl
theorem zA_pL (s : zSt) (k j : Nat) (v : Int64) : zA (zpL s k v) j = zA s j := rfl
theorem zA_sB (s : zSt) (k j : Nat) (f : Nat → Int64) : zA (zsB s k f) j = zA s j := rfl
theorem zL_pI (s : zSt) (k j : Nat) (v : Int32) : zL (zpI s k v) j = zL s j := rfl
theorem zL_sA (s : zSt) (k j : Nat) (f : Nat → Int32) : zL (zsA s k f) j = zL s j := rfl
theorem zL_pL (s : zSt) (k j : Nat) (v : Int64) : zL (zpL s k v) j = if j = k then v else zL s j := rfl
theorem zL_sB (s : zSt) (k j : Nat) (f : Nat → Int64) : zL (zsB s k f) j = zL s j := rfl
theorem zB_pI (s : zSt) (k j : Nat) (v : Int32) : zB (zpI s k v) j = zB s j := rfl
theorem zB_sA (s : zSt) (k j : Nat) (f : Nat → Int32) : zB (zsA s k f) j = zB s j := rfl
theorem zB_pL (s : zSt) (k j : Nat) (v : Int64) : zB (zpL s k v) j = zB s j := rfl
theorem zB_sB (s : zSt) (k j : Nat) (f : Nat → Int64) : zB (zsB s k f) j = if j = k then f else zB s j := rfl
/-- an index is looked at -/
def zck {α : Type} (i : Int32) (n : Nat) (x : Option α) : Option α := if i < 0 ∨ n ≤ i.toNatClampNeg then none else x
/-- a divisor is looked at -/
def zcz {α : Type} (i : Int32) (x : Option α) : Option α := if i = 0 then none else x
/-- a truth value is looked at -/
def zcb {α : Type} (i : Int32) (x : Option α) : Option α := if i = 0 ∨ i = 1 then x else none
/-- the places of a copy are looked at -/
def zcp {α : Type} (a d n : Int32) (na nd : Nat) (x : Option α) : Option α := if a < 0 ∨ d < 0 ∨ n < 0 ∨ na < a.toNatClampNeg + n.toNatClampNeg ∨ nd < d.toNatClampNeg + n.toNatClampNeg then none else x
theorem zck_some {α : Type} {i : Int32} {n : Nat} {x : Option α} {y : α} (h : zck i n x = some y) : vp_in i n ∧ x = some y := by
  unfold zck at h
  by_cases hc : i < 0 ∨ n ≤ i.toNatClampNeg
  · rw [if_pos hc] at h; cases h
  · rw [if_neg hc] at h; exact ⟨hc, h⟩
theorem zck_in {α : Type} {i : Int32} {n : Nat} {x : Option α} (h : vp_in i n) : zck i n x = x := if_neg h
theorem zcz_some {α : Type} {i : Int32} {x : Option α} {y : α} (h : zcz i x = some y) : ¬ i = 0 ∧ x = some y := by
  unfold zcz at h
  by_cases hc : i = 0
  · rw [if_pos hc] at h; cases h
  · rw [if_neg hc] at h; exact ⟨hc, h⟩
theorem zcz_in {α : Type} {i : Int32} {x : Option α} (h : ¬ i = 0) : zcz i x = x := if_neg h
theorem zcb_some {α : Type} {i : Int32} {x : Option α} {y : α} (h : zcb i x = some y) : (i = 0 ∨ i = 1) ∧ x = some y := by
  unfold zcb at h
  by_cases hc : i = 0 ∨ i = 1
  · rw [if_pos hc] at h; exact ⟨hc, h⟩
  · rw [if_neg hc] at h; cases h
theorem zcb_in {α : Type} {i : Int32} {x : Option α} (h : i = 0 ∨ i = 1) : zcb i x = x := if_pos h
theorem zcb_ite {α : Type} {c : Prop} [Decidable c] {x : Option α} : zcb (if c then 1 else 0) x = x := by
  by_cases h : c
  · rw [if_pos h]; exact if_pos (Or.inr rfl)
  · rw [if_neg h]; exact if_pos (Or.inl rfl)
theorem zcp_some {α : Type} {a d n : Int32} {na nd : Nat} {x : Option α} {y : α} (h : zcp a d n na nd x = some y) : (¬ a < 0 ∧ ¬ d < 0 ∧ ¬ n < 0 ∧ a.toNatClampNeg + n.toNatClampNeg ≤ na ∧ d.toNatClampNeg + n.toNatClampNeg ≤ nd) ∧ x = some y := by
  unfold zcp at h
  by_cases hc : a < 0 ∨ d < 0 ∨ n < 0 ∨ na < a.toNatClampNeg + n.toNatClampNeg ∨ nd < d.toNatClampNeg + n.toNatClampNeg
  · rw [if_pos hc] at h; cases h
  · rw [if_neg hc] at h
    exact ⟨⟨fun q => hc (Or.inl q), fun q => hc (Or.inr (Or.inl q)), fun q => hc (Or.inr (Or.inr (Or.inl q))), Nat.le_of_not_lt fun q => hc (Or.inr (Or.inr (Or.inr (Or.inl q)))), Nat.le_of_not_lt fun q => hc (Or.inr (Or.inr (Or.inr (Or.inr q))))⟩, h⟩
theorem zbd_some {α β : Type} {o : Option α} {g : α → Option β} {y : β} (h : o.bind g = some y) : ∃ z, o = some z ∧ g z = some y := by
  cases o with
  | none => cases h
  | some z => exact ⟨z, rfl, h⟩
theorem zif_t {α : Type} {c : Prop} [Decidable c] {a b : Option α} {y : α} (hc : c) (h : (if c then a else b) = some y) : a = some y := by rw [if_pos hc] at h; exact h
theorem zif_f {α : Type} {c : Prop} [Decidable c] {a b : Option α} {y : α} (hc : ¬ c) (h : (if c then a else b) = some y) : b = some y := by rw [if_neg hc] at h; exact h
