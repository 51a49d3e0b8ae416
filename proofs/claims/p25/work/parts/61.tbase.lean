/-! ranges of numbers -/
theorem tr (x : Int32) : (-2147483648 : Int) ≤ x.toInt ∧ x.toInt ≤ 2147483647 := by
  have h1 := Int32.le_toInt x
  have h2 := Int32.toInt_lt x
  omega
theorem tbm {n : Int} (h1 : -2147483648 ≤ n) (h2 : n ≤ 2147483647) : Int.bmod n (2 ^ 32) = n := by
  apply Int.bmod_eq_of_le <;> omega
theorem tadd (a b : Int32) (h1 : -2147483648 ≤ a.toInt + b.toInt) (h2 : a.toInt + b.toInt ≤ 2147483647) : (a + b).toInt = a.toInt + b.toInt := by
  rw [Int32.toInt_add]; exact tbm h1 h2
theorem tsub (a b : Int32) (h1 : -2147483648 ≤ a.toInt - b.toInt) (h2 : a.toInt - b.toInt ≤ 2147483647) : (a - b).toInt = a.toInt - b.toInt := by
  rw [Int32.toInt_sub]; exact tbm h1 h2
theorem tneg (a : Int32) (h1 : -2147483648 ≤ -a.toInt) (h2 : -a.toInt ≤ 2147483647) : (-a).toInt = -a.toInt := by
  rw [Int32.toInt_neg]; exact tbm h1 h2
theorem tmulr (a b : Int32) (k : Int) (hb : b.toInt = k) (h1 : -2147483648 ≤ a.toInt * k) (h2 : a.toInt * k ≤ 2147483647) : (a * b).toInt = a.toInt * k := by
  rw [Int32.toInt_mul, hb]; exact tbm h1 h2
theorem tmull (a b : Int32) (k : Int) (hb : b.toInt = k) (h1 : -2147483648 ≤ a.toInt * k) (h2 : a.toInt * k ≤ 2147483647) : (b * a).toInt = a.toInt * k := by
  rw [Int32.toInt_mul, hb, Int.mul_comm]; exact tbm h1 h2
theorem tdiv (a b : Int32) (k : Int) (hb : b.toInt = k) (hk : 0 < k) (h : 0 ≤ a.toInt) : (a / b).toInt = a.toInt / k := by
  have h2 := (tr a).2
  rw [Int32.toInt_div, hb, Int.tdiv_eq_ediv_of_nonneg h]
  apply tbm
  · have := Int.ediv_nonneg h (Int.le_of_lt hk); omega
  · have := Int.ediv_le_self k h; omega
theorem tdq12 (a : Int32) : (a / (12 : Int32)).toInt = a.toInt.tdiv 12 ∧ ((0 ≤ a.toInt ∧ a.toInt.tdiv 12 = a.toInt / 12) ∨ (a.toInt < 0 ∧ a.toInt.tdiv 12 = -((-a.toInt) / 12))) := by
  have r := tr a
  have hb : (12 : Int32).toInt = 12 := by decide
  have q : (0 ≤ a.toInt ∧ a.toInt.tdiv 12 = a.toInt / 12) ∨ (a.toInt < 0 ∧ a.toInt.tdiv 12 = -((-a.toInt) / 12)) := by
    by_cases h : 0 ≤ a.toInt
    · exact Or.inl ⟨h, Int.tdiv_eq_ediv_of_nonneg h⟩
    · refine Or.inr ⟨by omega, ?_⟩
      rw [← Int.tdiv_eq_ediv_of_nonneg (show 0 ≤ -a.toInt by omega), Int.neg_tdiv, Int.neg_neg]
  refine ⟨?_, q⟩
  rw [Int32.toInt_div, hb]
  exact tbm (by omega) (by omega)
theorem trem12 (a : Int32) : -(12 - 1) ≤ (a - a / (12 : Int32) * (12 : Int32)).toInt ∧ (a - a / (12 : Int32) * (12 : Int32)).toInt ≤ 12 - 1 ∧ (0 ≤ a.toInt → 0 ≤ (a - a / (12 : Int32) * (12 : Int32)).toInt ∧ (a - a / (12 : Int32) * (12 : Int32)).toInt = a.toInt % 12) := by
  have r := tr a
  obtain ⟨e, q⟩ := tdq12 a
  have e2 := tmulr (a / (12 : Int32)) (12 : Int32) 12 (by decide) (by omega) (by omega)
  have e3 := tsub a (a / (12 : Int32) * (12 : Int32)) (by omega) (by omega)
  omega
theorem tdq32 (a : Int32) : (a / (32 : Int32)).toInt = a.toInt.tdiv 32 ∧ ((0 ≤ a.toInt ∧ a.toInt.tdiv 32 = a.toInt / 32) ∨ (a.toInt < 0 ∧ a.toInt.tdiv 32 = -((-a.toInt) / 32))) := by
  have r := tr a
  have hb : (32 : Int32).toInt = 32 := by decide
  have q : (0 ≤ a.toInt ∧ a.toInt.tdiv 32 = a.toInt / 32) ∨ (a.toInt < 0 ∧ a.toInt.tdiv 32 = -((-a.toInt) / 32)) := by
    by_cases h : 0 ≤ a.toInt
    · exact Or.inl ⟨h, Int.tdiv_eq_ediv_of_nonneg h⟩
    · refine Or.inr ⟨by omega, ?_⟩
      rw [← Int.tdiv_eq_ediv_of_nonneg (show 0 ≤ -a.toInt by omega), Int.neg_tdiv, Int.neg_neg]
  refine ⟨?_, q⟩
  rw [Int32.toInt_div, hb]
  exact tbm (by omega) (by omega)
theorem trem32 (a : Int32) : -(32 - 1) ≤ (a - a / (32 : Int32) * (32 : Int32)).toInt ∧ (a - a / (32 : Int32) * (32 : Int32)).toInt ≤ 32 - 1 ∧ (0 ≤ a.toInt → 0 ≤ (a - a / (32 : Int32) * (32 : Int32)).toInt ∧ (a - a / (32 : Int32) * (32 : Int32)).toInt = a.toInt % 32) := by
  have r := tr a
  obtain ⟨e, q⟩ := tdq32 a
  have e2 := tmulr (a / (32 : Int32)) (32 : Int32) 32 (by decide) (by omega) (by omega)
  have e3 := tsub a (a / (32 : Int32) * (32 : Int32)) (by omega) (by omega)
  omega
theorem tnat (a : Int32) (h : 0 ≤ a.toInt) : a.toInt = (a.toBitVec.toNat : Int) := by
  rw [← Int32.toInt_toBitVec] at h ⊢
  have := BitVec.toInt_eq_toNat_cond a.toBitVec
  have h2 := a.toBitVec.isLt
  split at this <;> omega
theorem tnat' (a : Int32) (h : a.toBitVec.toNat < 2147483648) : a.toInt = (a.toBitVec.toNat : Int) := by
  rw [← Int32.toInt_toBitVec]
  exact BitVec.toInt_eq_toNat_of_lt (by omega)
theorem tandr (a b : Int32) (h : 0 ≤ b.toInt) : 0 ≤ (a &&& b).toInt ∧ (a &&& b).toInt ≤ b.toInt := by
  have e := tnat b h
  have l : (a &&& b).toBitVec.toNat ≤ b.toBitVec.toNat := by
    rw [Int32.toBitVec_and, BitVec.toNat_and]; exact Nat.and_le_right
  have r := tr b
  have e2 := tnat' (a &&& b) (by omega)
  omega
theorem tandl (a b : Int32) (h : 0 ≤ a.toInt) : 0 ≤ (a &&& b).toInt ∧ (a &&& b).toInt ≤ a.toInt := by
  have e := tnat a h
  have l : (a &&& b).toBitVec.toNat ≤ a.toBitVec.toNat := by
    rw [Int32.toBitVec_and, BitVec.toNat_and]; exact Nat.and_le_left
  have r := tr a
  have e2 := tnat' (a &&& b) (by omega)
  omega
theorem tor (a b : Int32) (n : Nat) (hn : n < 31) (h1 : 0 ≤ a.toInt) (h2 : a.toInt < (2 ^ n : Nat)) (h3 : 0 ≤ b.toInt) (h4 : b.toInt < (2 ^ n : Nat)) : 0 ≤ (a ||| b).toInt ∧ (a ||| b).toInt ≤ ((2 ^ n : Nat) : Int) - 1 := by
  have ea := tnat a h1
  have eb := tnat b h3
  have l : (a ||| b).toBitVec.toNat < 2 ^ n := by
    rw [Int32.toBitVec_or, BitVec.toNat_or]; exact Nat.or_lt_two_pow (by omega) (by omega)
  have p : 2 ^ n < 2 ^ 31 := Nat.pow_lt_pow_right (by omega) hn
  have e2 := tnat' (a ||| b) (by omega)
  omega
theorem tshl_all : ∀ j < 31, (1 : Int32) <<< (nI j &&& 31) = nI (2 ^ j) := by decide +kernel
theorem tshl (x : Int32) (k : Nat) (hk : k < 31) (h1 : 0 ≤ x.toInt) (h2 : x.toInt ≤ k) : 1 ≤ ((1 : Int32) <<< (x &&& 31)).toInt ∧ ((1 : Int32) <<< (x &&& 31)).toInt ≤ ((2 ^ k : Nat) : Int) := by
  obtain ⟨j, hj, rfl⟩ := nI_of (x := x) (fun h => by rw [Int32.lt_iff_toInt_lt] at h; have q0 : (0 : Int32).toInt = 0 := (by decide); omega)
  have e : (nI j).toInt = j := nI_toInt hj
  rw [tshl_all j (by omega), nI_toInt (Nat.pow_lt_pow_right (by omega) (by omega : j < 31))]
  have a : 2 ^ j ≤ 2 ^ k := Nat.pow_le_pow_right (by omega) (by omega)
  have b := Nat.two_pow_pos j
  omega
theorem tlt {a b : Int32} (h : a < b) : a.toInt < b.toInt := Int32.lt_iff_toInt_lt.mp h
theorem tle {a b : Int32} (h : a ≤ b) : a.toInt ≤ b.toInt := Int32.le_iff_toInt_le.mp h
theorem tnlt {a b : Int32} (h : ¬ a < b) : a.toInt ≥ b.toInt := by
  rw [Int32.lt_iff_toInt_lt] at h; omega
theorem tnle {a b : Int32} (h : ¬ a ≤ b) : a.toInt > b.toInt := by
  rw [Int32.le_iff_toInt_le] at h; omega
theorem teq {a b : Int32} (h : a = b) : a.toInt = b.toInt := congrArg _ h
theorem tneq {a b : Int32} (h : ¬ a = b) : a.toInt ≠ b.toInt := fun q => h (Int32.toInt_inj.mp q)
theorem vin {i : Int32} {n : Nat} (h1 : 0 ≤ i.toInt) (h2 : i.toInt < (n : Int)) : vp_in i n := by
  have e0 : (0 : Int32).toInt = 0 := by decide
  obtain ⟨j, hj, rfl⟩ := nI_of (x := i) (fun h => by rw [Int32.lt_iff_toInt_lt] at h; omega)
  have e : (nI j).toInt = j := nI_toInt hj
  intro q
  rcases q with q | q
  · rw [Int32.lt_iff_toInt_lt] at q; omega
  · rw [nI_clamp hj] at q; omega
theorem t01 {x : Int32} (h1 : 0 ≤ x.toInt) (h2 : x.toInt ≤ 1) : x = 0 ∨ x = 1 := by
  have e0 : (0 : Int32).toInt = 0 := by decide
  have e1 : (1 : Int32).toInt = 1 := by decide
  by_cases h : x.toInt = 0
  · exact Or.inl (Int32.toInt_inj.mp (by omega))
  · exact Or.inr (Int32.toInt_inj.mp (by omega))
theorem cp_ok {n : Int32} {na nd : Nat} (h0 : 0 ≤ n.toInt) (h1 : n.toInt ≤ na) (h2 : n.toInt ≤ nd) : ¬ (0 : Int32) < 0 ∧ ¬ (0 : Int32) < 0 ∧ ¬ n < 0 ∧ Int32.toNatClampNeg 0 + n.toNatClampNeg ≤ na ∧ Int32.toNatClampNeg 0 + n.toNatClampNeg ≤ nd := by
  have e0 : (0 : Int32).toInt = 0 := by decide
  obtain ⟨j, hj, rfl⟩ := nI_of (x := n) (fun h => by rw [Int32.lt_iff_toInt_lt] at h; omega)
  have e : (nI j).toInt = j := nI_toInt hj
  rw [nI_clamp hj, show Int32.toNatClampNeg 0 = 0 from rfl]
  exact ⟨by decide, by decide, fun h => by rw [Int32.lt_iff_toInt_lt] at h; omega, by omega, by omega⟩
/-! what a state holds -/
def IS (rg ra : Nat → Int × Int) (s : zSt) : Prop := (∀ k, (rg k).1 ≤ (zI s k).toInt ∧ (zI s k).toInt ≤ (rg k).2) ∧ ∀ k i, (ra k).1 ≤ (zA s k i).toInt ∧ (zA s k i).toInt ≤ (ra k).2
theorem IS.pI {rg ra : Nat → Int × Int} {s : zSt} (k : Nat) (v : Int32) (h : IS rg ra s) (r : (rg k).1 ≤ v.toInt ∧ v.toInt ≤ (rg k).2) : IS rg ra (zpI s k v) := by
  refine ⟨fun j => ?_, h.2⟩
  rw [zI_pI]
  by_cases e : j = k
  · rw [if_pos e, e]; exact r
  · rw [if_neg e]; exact h.1 j
theorem IS.sA {rg ra : Nat → Int × Int} {s : zSt} (k : Nat) (f : Nat → Int32) (h : IS rg ra s) (r : ∀ i, (ra k).1 ≤ (f i).toInt ∧ (f i).toInt ≤ (ra k).2) : IS rg ra (zsA s k f) := by
  refine ⟨h.1, fun j i => ?_⟩
  rw [zA_sA]
  by_cases e : j = k
  · rw [if_pos e, e]; exact r i
  · rw [if_neg e]; exact h.2 j i
theorem IS.pL {rg ra : Nat → Int × Int} {s : zSt} (k : Nat) (v : Int64) (h : IS rg ra s) : IS rg ra (zpL s k v) := h
theorem IS.sB {rg ra : Nat → Int × Int} {s : zSt} (k : Nat) (f : Nat → Int64) (h : IS rg ra s) : IS rg ra (zsB s k f) := h
theorem IS.mg {rg ra : Nat → Int × Int} {n o : zSt} (ks : List Nat) (hn : IS rg ra n) (ho : IS rg ra o) : IS rg ra (zmg ks n o) := by
  refine ⟨hn.1, fun j i => ?_⟩
  rw [zA_mg]
  by_cases e : ks.contains j = true
  · rw [if_pos e]; exact ho.2 j i
  · rw [if_neg e]; exact hn.2 j i
theorem rgm {x : Int32} {a b c d : Int} (h : a ≤ x.toInt ∧ x.toInt ≤ b) (h1 : c ≤ a) (h2 : b ≤ d) : c ≤ x.toInt ∧ x.toInt ≤ d := ⟨Int.le_trans h1 h.1, Int.le_trans h.2 h2⟩
theorem rgu {f : Nat → Int32} {k : Nat} {v : Int32} {a b : Int} (h : ∀ i, a ≤ (f i).toInt ∧ (f i).toInt ≤ b) (r : a ≤ v.toInt ∧ v.toInt ≤ b) : ∀ i, a ≤ (upd f k v i).toInt ∧ (upd f k v i).toInt ≤ b := by
  intro i
  show a ≤ (if i = k then v else f i).toInt ∧ (if i = k then v else f i).toInt ≤ b
  by_cases e : i = k
  · rw [if_pos e]; exact r
  · rw [if_neg e]; exact h i
theorem rgc {f g : Nat → Int32} {p q n : Nat} {a b : Int} (h : ∀ i, a ≤ (f i).toInt ∧ (f i).toInt ≤ b) (r : ∀ i, a ≤ (g i).toInt ∧ (g i).toInt ≤ b) : ∀ i, a ≤ (va_cpy f g p q n i).toInt ∧ (va_cpy f g p q n i).toInt ≤ b := by
  intro i
  unfold va_cpy
  by_cases e : q ≤ i ∧ i < q + n
  · rw [if_pos e]; exact h _
  · rw [if_neg e]; exact r i
/-- but for the fields W and the rows A a state is as g -/
def Fr (W A : List Nat) (z g : zSt) : Prop := (∀ k, W.contains k = false → zI z k = zI g k) ∧ ∀ k, A.contains k = false → zA z k = zA g k
theorem Fr.pI {W A : List Nat} {s g : zSt} {k : Nat} {v : Int32} (h : Fr W A s g) (e : W.contains k = true) : Fr W A (zpI s k v) g := by
  refine ⟨fun j hj => ?_, h.2⟩
  rw [zI_pI, if_neg (fun q => by rw [q, e] at hj; cases hj)]
  exact h.1 j hj
theorem Fr.sA {W A : List Nat} {s g : zSt} {k : Nat} {f : Nat → Int32} (h : Fr W A s g) (e : A.contains k = true) : Fr W A (zsA s k f) g := by
  refine ⟨h.1, fun j hj => ?_⟩
  rw [zA_sA, if_neg (fun q => by rw [q, e] at hj; cases hj)]
  exact h.2 j hj
theorem Fr.pL {W A : List Nat} {s g : zSt} {k : Nat} {v : Int64} (h : Fr W A s g) : Fr W A (zpL s k v) g := h
theorem Fr.sB {W A : List Nat} {s g : zSt} {k : Nat} {f : Nat → Int64} (h : Fr W A s g) : Fr W A (zsB s k f) g := h
theorem Fr.mg {W A : List Nat} {n o g : zSt} {ks : List Nat} (h : Fr W A n g) (k : Fr W A o g) : Fr W A (zmg ks n o) g := by
  refine ⟨h.1, fun j hj => ?_⟩
  rw [zA_mg]
  by_cases e : ks.contains j = true
  · rw [if_pos e]; exact k.2 j hj
  · rw [if_neg e]; exact h.2 j hj
theorem all_in {V W : List Nat} (e : V.all (fun k => W.contains k) = true) {k : Nat} (hk : W.contains k = false) : V.contains k = false := by
  by_cases q : V.contains k = true
  · have := List.all_eq_true.mp e k (List.contains_iff_mem.mp q)
    rw [this] at hk; cases hk
  · simpa using q
theorem Fr.tr {V W A B : List Nat} {z a g : zSt} (h : Fr V A z a) (ha : Fr W B a g) (e : V.all (fun k => W.contains k) = true) (e2 : A.all (fun k => B.contains k) = true) : Fr W B z g :=
  ⟨fun k hk => by rw [h.1 k (all_in e hk), ha.1 k hk], fun k hk => by rw [h.2 k (all_in e2 hk), ha.2 k hk]⟩
theorem Fr.rf {W A : List Nat} {s : zSt} : Fr W A s s := ⟨fun _ _ => rfl, fun _ _ => rfl⟩
/-- entries: the tones of a sound are a tone -/
def ET (s : zSt) : Prop := ∀ i, (zA s 2 i).toInt = -1 ∨ (0 ≤ (zA s 3 i).toInt ∧ (zA s 3 i).toInt ≤ 11)
/-! helpers that answer 0 or 1 -/
theorem u_CH_within (N : Nat) (a b c : Int32) : CH_within N a b c = some 0 ∨ (CH_within N a b c = some 1 ∧ b.toInt ≤ a.toInt ∧ a.toInt ≤ c.toInt) := by
  rw [CH_within, CH_within_b0]
  by_cases h : a < b
  · rw [if_pos h]; exact Or.inl rfl
  · rw [if_neg h]
    by_cases h2 : c < a
    · rw [if_pos h2]; exact Or.inl rfl
    · rw [if_neg h2]; exact Or.inr ⟨rfl, tnlt h, tnlt h2⟩
theorem u_Mo_isIn (N : Nat) (a b c : Int32) : Mo_isIn N a b c = some 0 ∨ (Mo_isIn N a b c = some 1 ∧ b.toInt ≤ a.toInt ∧ a.toInt ≤ c.toInt) := u_CH_within N a b c
theorem u_bnd {o : Option Int32} {P : Prop} (h : o = some 0 ∨ (o = some 1 ∧ P)) : (o.bind (fun z1 => zcb z1 (some z1)) = some 0) ∨ (o.bind (fun z1 => zcb z1 (some z1)) = some 1 ∧ P) := by
  rcases h with h | ⟨h, p⟩
  · rw [h]; exact Or.inl rfl
  · rw [h]; exact Or.inr ⟨rfl, p⟩
theorem u_CH_isPlace (N : Nat) (a : Int32) : CH_isPlace N a = some 0 ∨ (CH_isPlace N a = some 1 ∧ (0 : Int32).toInt ≤ a.toInt ∧ a.toInt ≤ (99 : Int32).toInt) := u_bnd (u_CH_within N a 0 99)
theorem u_Mo_isPlace (N : Nat) (a : Int32) : Mo_isPlace N a = some 0 ∨ (Mo_isPlace N a = some 1 ∧ (0 : Int32).toInt ≤ a.toInt ∧ a.toInt ≤ (99 : Int32).toInt) := u_bnd (u_CH_within N a 0 99)
theorem u_CH_isWind (N : Nat) (a : Int32) : CH_isWind N a = some 0 ∨ (CH_isWind N a = some 1 ∧ (0 : Int32).toInt ≤ a.toInt ∧ a.toInt ≤ (20 : Int32).toInt) := u_bnd (u_CH_within N a 0 20)
theorem u_Mo_isWind (N : Nat) (a : Int32) : Mo_isWind N a = some 0 ∨ (Mo_isWind N a = some 1 ∧ (0 : Int32).toInt ≤ a.toInt ∧ a.toInt ≤ (20 : Int32).toInt) := u_bnd (u_CH_within N a 0 20)
theorem u_CH_isQuarter (N : Nat) (a : Int32) : CH_isQuarter N a = some 0 ∨ (CH_isQuarter N a = some 1 ∧ (0 : Int32).toInt ≤ a.toInt ∧ a.toInt ≤ (95 : Int32).toInt) := u_bnd (u_CH_within N a 0 95)
theorem u_Mo_isQuarter (N : Nat) (a : Int32) : Mo_isQuarter N a = some 0 ∨ (Mo_isQuarter N a = some 1 ∧ (0 : Int32).toInt ≤ a.toInt ∧ a.toInt ≤ (95 : Int32).toInt) := u_bnd (u_CH_within N a 0 95)
theorem u_Mo_isTone (N : Nat) (a : Int32) : Mo_isTone N a = some 0 ∨ (Mo_isTone N a = some 1 ∧ (0 : Int32).toInt ≤ a.toInt ∧ a.toInt ≤ (11 : Int32).toInt) := u_bnd (u_CH_within N a 0 11)
theorem u_Valley_hasBell (N : Nat) (s : zSt) (a : Int32) : Valley_hasBell N s a = some 0 ∨ (Valley_hasBell N s a = some 1 ∧ (0 : Int32).toInt ≤ a.toInt ∧ a.toInt ≤ (zI s 3 - 1).toInt) := u_bnd (u_CH_within N a 0 (zI s 3 - 1))
theorem u_Valley_hasEar (N : Nat) (s : zSt) (a : Int32) : Valley_hasEar N s a = some 0 ∨ (Valley_hasEar N s a = some 1 ∧ (0 : Int32).toInt ≤ a.toInt ∧ a.toInt ≤ (zI s 12 - 1).toInt) := u_bnd (u_CH_within N a 0 (zI s 12 - 1))
theorem u_Mo_isBell (N : Nat) (s : zSt) (a : Int32) : Mo_isBell N s a = some 0 ∨ (Mo_isBell N s a = some 1 ∧ (0 : Int32).toInt ≤ a.toInt ∧ a.toInt ≤ (zI s 29 - 1).toInt) := u_bnd (u_CH_within N a 0 (zI s 29 - 1))
theorem u_Mo_isEar (N : Nat) (s : zSt) (a : Int32) : Mo_isEar N s a = some 0 ∨ (Mo_isEar N s a = some 1 ∧ (0 : Int32).toInt ≤ a.toInt ∧ a.toInt ≤ (zI s 32 - 1).toInt) := u_bnd (u_CH_within N a 0 (zI s 32 - 1))
theorem u_Entries_isSound (N : Nat) (s : zSt) (a : Int32) (hv : vp_in a 40) (h : (-1 : Int) ≤ (zA s 2 (Int32.toNatClampNeg a)).toInt) : Entries_isSound N s a = some 0 ∨ (Entries_isSound N s a = some 1 ∧ (0 : Int32).toInt ≤ (zA s 2 (Int32.toNatClampNeg a)).toInt) := by
  rw [Entries_isSound, Entries_isSound_b0, zck_in hv]
  have e0 : (0 : Int32).toInt = 0 := by decide
  have e1 : ((-1) : Int32).toInt = -1 := by decide
  by_cases q : zA s 2 (Int32.toNatClampNeg a) = -1
  · rw [if_pos q]; exact Or.inl rfl
  · rw [if_neg q]; have := tneq q; exact Or.inr ⟨rfl, by omega⟩
theorem u_Mo_isBox (N : Nat) (a : Int32) : Mo_isBox N a = some 0 ∨ (Mo_isBox N a = some 1 ∧ (0 : Int32).toInt ≤ a.toInt ∧ a.toInt ≤ (2 : Int32).toInt) := by
  rw [Mo_isBox, Mo_isBox_b0]
  have e2 : (2 : Int32).toInt = 2 := by decide
  have e3 : (3 : Int32).toInt = 3 := by decide
  by_cases h : a < 0
  · rw [if_pos h]; exact Or.inl rfl
  · rw [if_neg h]
    by_cases h2 : 3 ≤ a
    · rw [if_pos h2]; exact Or.inl rfl
    · rw [if_neg h2]; have := tnle h2; exact Or.inr ⟨rfl, tnlt h, by omega⟩
theorem li_m2 : ((-2) : Int32).toInt = -2 := by decide
theorem li_m1 : ((-1) : Int32).toInt = -1 := by decide
theorem li_0 : (0 : Int32).toInt = 0 := by decide
theorem li_1 : (1 : Int32).toInt = 1 := by decide
theorem li_2 : (2 : Int32).toInt = 2 := by decide
theorem li_3 : (3 : Int32).toInt = 3 := by decide
theorem li_4 : (4 : Int32).toInt = 4 := by decide
theorem li_5 : (5 : Int32).toInt = 5 := by decide
theorem li_6 : (6 : Int32).toInt = 6 := by decide
theorem li_7 : (7 : Int32).toInt = 7 := by decide
theorem li_8 : (8 : Int32).toInt = 8 := by decide
theorem li_9 : (9 : Int32).toInt = 9 := by decide
theorem li_10 : (10 : Int32).toInt = 10 := by decide
theorem li_11 : (11 : Int32).toInt = 11 := by decide
theorem li_12 : (12 : Int32).toInt = 12 := by decide
theorem li_16 : (16 : Int32).toInt = 16 := by decide
theorem li_17 : (17 : Int32).toInt = 17 := by decide
theorem li_20 : (20 : Int32).toInt = 20 := by decide
theorem li_40 : (40 : Int32).toInt = 40 := by decide
theorem li_47 : (47 : Int32).toInt = 47 := by decide
theorem li_95 : (95 : Int32).toInt = 95 := by decide
theorem li_96 : (96 : Int32).toInt = 96 := by decide
theorem li_99 : (99 : Int32).toInt = 99 := by decide
theorem li_100 : (100 : Int32).toInt = 100 := by decide
theorem li_200 : (200 : Int32).toInt = 200 := by decide
theorem li_999 : (999 : Int32).toInt = 999 := by decide
theorem li_1000 : (1000 : Int32).toInt = 1000 := by decide
theorem li_4095 : (4095 : Int32).toInt = 4095 := by decide
theorem li_100000 : (100000 : Int32).toInt = 100000 := by decide
def rg_Bounds : Nat → Int × Int := fun k => if k = 2 then (0, 4) else ((-2147483648 : Int), (2147483647 : Int))
def ra_Bounds : Nat → Int × Int := fun k => if k = 3 then (0, 3) else ((-2147483648 : Int), (2147483647 : Int))
def I_Bounds (s : zSt) : Prop := IS rg_Bounds ra_Bounds s
def rg_CH : Nat → Int × Int := fun k => if k = 1 then (0, 1500) else if k = 9 then (0, 100000) else if k = 11 then (0, 8) else ((-2147483648 : Int), (2147483647 : Int))
def ra_CH : Nat → Int × Int := fun k => ((-2147483648 : Int), (2147483647 : Int))
def I_CH (s : zSt) : Prop := IS rg_CH ra_CH s
def rg_Creeps : Nat → Int × Int := fun k => if k = 0 then (0, 8) else if k = 2 then (0, 40) else if k = 8 then (0, 17) else if k = 9 then (-1, 40) else ((-2147483648 : Int), (2147483647 : Int))
def ra_Creeps : Nat → Int × Int := fun k => if k = 1 then (0, 11) else if k = 3 then (0, 39) else if k = 6 then (0, 2) else ((-2147483648 : Int), (2147483647 : Int))
def I_Creeps (s : zSt) : Prop := IS rg_Creeps ra_Creeps s
def rg_Dealer : Nat → Int × Int := fun k => if k = 0 then (0, 8) else if k = 1 then (0, 2) else ((-2147483648 : Int), (2147483647 : Int))
def ra_Dealer : Nat → Int × Int := fun k => if k = 2 then (0, 99) else ((-2147483648 : Int), (2147483647 : Int))
def I_Dealer (s : zSt) : Prop := IS rg_Dealer ra_Dealer s
def rg_Earnest : Nat → Int × Int := fun k => if k = 2 then (0, 99) else if k = 3 then (0, 20) else if k = 4 then (0, 200) else ((-2147483648 : Int), (2147483647 : Int))
def ra_Earnest : Nat → Int × Int := fun k => if k = 5 then (0, 2) else ((-2147483648 : Int), (2147483647 : Int))
def I_Earnest (s : zSt) : Prop := IS rg_Earnest ra_Earnest s
def rg_Entries : Nat → Int × Int := fun k => if k = 0 then (0, 40) else ((-2147483648 : Int), (2147483647 : Int))
def ra_Entries : Nat → Int × Int := fun k => if k = 2 then (-1, 3) else ((-2147483648 : Int), (2147483647 : Int))
def I_Entries (s : zSt) : Prop := IS rg_Entries ra_Entries s
def rg_Mo : Nat → Int × Int := fun k => if k = 1 then (0, 1500) else if k = 28 then (0, 3) else if k = 29 then (0, 11) else if k = 30 then (0, 9) else if k = 31 then (0, 2) else if k = 32 then (0, 4) else if k = 47 then (0, 40) else if k = 48 then (0, 100000) else if k = 50 then (0, 1) else if k = 51 then (0, 3) else if k = 53 then (0, 3) else if k = 58 then (0, 9) else if k = 61 then (0, 64) else ((-2147483648 : Int), (2147483647 : Int))
def ra_Mo : Nat → Int × Int := fun k => if k = 21 then (0, 10) else if k = 41 then (0, 3) else if k = 49 then (0, 1) else if k = 56 then (0, 11) else if k = 62 then (0, 1) else ((-2147483648 : Int), (2147483647 : Int))
def I_Mo (s : zSt) : Prop := IS rg_Mo ra_Mo s
def rg_Parting : Nat → Int × Int := fun k => if k = 0 then (0, 1) else if k = 1 then (0, 3) else if k = 2 then (0, 99) else if k = 3 then (0, 3) else if k = 4 then (0, 99) else if k = 5 then (0, 95) else ((-2147483648 : Int), (2147483647 : Int))
def ra_Parting : Nat → Int × Int := fun k => ((-2147483648 : Int), (2147483647 : Int))
def I_Parting (s : zSt) : Prop := IS rg_Parting ra_Parting s
def rg_Reader : Nat → Int × Int := fun k => ((-2147483648 : Int), (2147483647 : Int))
def ra_Reader : Nat → Int × Int := fun k => ((-2147483648 : Int), (2147483647 : Int))
def I_Reader (s : zSt) : Prop := IS rg_Reader ra_Reader s
def rg_Sets : Nat → Int × Int := fun k => if k = 6 then (0, 1) else if k = 7 then (0, 11) else ((-2147483648 : Int), (2147483647 : Int))
def ra_Sets : Nat → Int × Int := fun k => if k = 8 then (0, 10) else if k = 9 then (0, 11) else ((-2147483648 : Int), (2147483647 : Int))
def I_Sets (s : zSt) : Prop := IS rg_Sets ra_Sets s
def rg_Teller : Nat → Int × Int := fun k => ((-2147483648 : Int), (2147483647 : Int))
def ra_Teller : Nat → Int × Int := fun k => ((-2147483648 : Int), (2147483647 : Int))
def I_Teller (s : zSt) : Prop := IS rg_Teller ra_Teller s
def rg_Valley : Nat → Int × Int := fun k => if k = 0 then (0, 3) else if k = 3 then (0, 11) else if k = 8 then (0, 2047) else if k = 9 then (0, 9) else if k = 11 then (0, 20) else if k = 12 then (0, 4) else ((-2147483648 : Int), (2147483647 : Int))
def ra_Valley : Nat → Int × Int := fun k => if k = 5 then (0, 11) else if k = 6 then (0, 99) else if k = 7 then (-1, 2) else if k = 14 then (0, 99) else ((-2147483648 : Int), (2147483647 : Int))
def I_Valley (s : zSt) : Prop := IS rg_Valley ra_Valley s
