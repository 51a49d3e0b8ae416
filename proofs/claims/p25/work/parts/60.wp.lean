/-! what an Option comes to -/
def zok {α : Type} (o : Option α) (P : α → Prop) : Prop := ∃ z, o = some z ∧ P z
theorem zok_some {α : Type} {a : α} {P : α → Prop} (h : P a) : zok (some a) P := ⟨a, rfl, h⟩
theorem zok_eq {α : Type} {o : Option α} {a : α} {P : α → Prop} (e : o = some a) (h : P a) : zok o P := ⟨a, e, h⟩
theorem zok_bind {α β : Type} {o : Option α} {f : α → Option β} {Q : α → Prop} {P : β → Prop} (h : zok o Q) (k : ∀ z, Q z → zok (f z) P) : zok (o.bind f) P := by
  obtain ⟨z, e, hz⟩ := h
  subst e
  exact k z hz
theorem zok_be {α β : Type} {o : Option α} {a : α} {f : α → Option β} {P : β → Prop} (e : o = some a) (k : zok (f a) P) : zok (o.bind f) P := by
  subst e
  exact k
theorem zok_ite {α : Type} {c : Prop} [Decidable c] {a b : Option α} {P : α → Prop} (ht : c → zok a P) (hf : ¬ c → zok b P) : zok (if c then a else b) P := by
  by_cases h : c
  · rw [if_pos h]; exact ht h
  · rw [if_neg h]; exact hf h
theorem zok_t {α : Type} {c : Prop} [Decidable c] {a b : Option α} {P : α → Prop} (h : c) (k : zok a P) : zok (if c then a else b) P := by rw [if_pos h]; exact k
theorem zok_f {α : Type} {c : Prop} [Decidable c] {a b : Option α} {P : α → Prop} (h : ¬ c) (k : zok b P) : zok (if c then a else b) P := by rw [if_neg h]; exact k
theorem zok_ck {α : Type} {i : Int32} {n : Nat} {x : Option α} {P : α → Prop} (h : vp_in i n) (k : zok x P) : zok (zck i n x) P := by rw [zck_in h]; exact k
theorem zok_cb {α : Type} {i : Int32} {x : Option α} {P : α → Prop} (h : i = 0 ∨ i = 1) (k : zok x P) : zok (zcb i x) P := by rw [zcb_in h]; exact k
theorem zok_cz {α : Type} {i : Int32} {x : Option α} {P : α → Prop} (h : ¬ i = 0) (k : zok x P) : zok (zcz i x) P := by rw [zcz_in h]; exact k
theorem zok_cp {α : Type} {a d n : Int32} {na nd : Nat} {x : Option α} {P : α → Prop} (h : ¬ a < 0 ∧ ¬ d < 0 ∧ ¬ n < 0 ∧ a.toNatClampNeg + n.toNatClampNeg ≤ na ∧ d.toNatClampNeg + n.toNatClampNeg ≤ nd) (k : zok x P) : zok (zcp a d n na nd x) P := by
  unfold zcp
  rw [if_neg (by rintro (q | q | q | q | q) <;> first | exact h.1 q | exact h.2.1 q | exact h.2.2.1 q | omega)]
  exact k
theorem zok_mono {α : Type} {o : Option α} {P Q : α → Prop} (h : zok o Q) (k : ∀ z, Q z → P z) : zok o P := by
  obtain ⟨z, e, hz⟩ := h
  exact ⟨z, e, k z hz⟩
theorem zok_and {α : Type} {o : Option α} {P Q : α → Prop} (h : zok o P) (k : zok o Q) : zok o (fun z => P z ∧ Q z) := by
  obtain ⟨z, e, hz⟩ := h
  obtain ⟨w, e2, hw⟩ := k
  rw [e] at e2
  cases e2
  exact ⟨z, e, hz, hw⟩
/-! numbers -/
theorem zc (n : Nat) (h : n < 2 ^ 31) : (nI n).toNatClampNeg = n := nI_clamp h
theorem zin {n N : Nat} (h : n < N) (hN : N < 2 ^ 31) : vp_in (nI n) N := vp_in_nI h hN
theorem znI_lit (n : Nat) : (OfNat.ofNat n : Int32) = nI n := rfl
theorem zlt {a b : Nat} (ha : a < 2 ^ 31) (hb : b < 2 ^ 31) : (nI a < nI b) = (a < b) := propext (nI_ltI ha hb)
theorem zle {a b : Nat} (ha : a < 2 ^ 31) (hb : b < 2 ^ 31) : (nI a ≤ nI b) = (a ≤ b) := propext (nI_leI ha hb)
theorem zeq {a b : Nat} (ha : a < 2 ^ 31) (hb : b < 2 ^ 31) : (nI a = nI b) = (a = b) := propext (nI_eq ha hb)
/-- an int is NONE or below, or a number -/
theorem zcases (x : Int32) : x < 0 ∨ ∃ n : Nat, n < 2 ^ 31 ∧ x = nI n := by
  by_cases h : x < 0
  · exact Or.inl h
  · exact Or.inr (by obtain ⟨j, hj, e⟩ := nI_of h; exact ⟨j, hj, e⟩)
theorem zltL {a k : Nat} (ha : a < 2 ^ 31) (hk : k < 2 ^ 31) : nI a < (OfNat.ofNat k : Int32) ↔ a < k := nI_ltI ha hk
theorem zltR {a k : Nat} (ha : a < 2 ^ 31) (hk : k < 2 ^ 31) : (OfNat.ofNat k : Int32) < nI a ↔ k < a := nI_ltI hk ha
theorem zleL {a k : Nat} (ha : a < 2 ^ 31) (hk : k < 2 ^ 31) : nI a ≤ (OfNat.ofNat k : Int32) ↔ a ≤ k := nI_leI ha hk
theorem zleR {a k : Nat} (ha : a < 2 ^ 31) (hk : k < 2 ^ 31) : (OfNat.ofNat k : Int32) ≤ nI a ↔ k ≤ a := nI_leI hk ha
theorem zeqL {a k : Nat} (ha : a < 2 ^ 31) (hk : k < 2 ^ 31) : nI a = (OfNat.ofNat k : Int32) ↔ a = k := nI_eq ha hk
theorem zbs {α β : Type} (a : α) (f : α → Option β) : (some a).bind f = f a := rfl
