/-! names -/
/-- words that stand for themselves -/
abbrev isKw (w : Int64) : Prop := w = 1751478884 ∨ w = 422607680372 ∨ w = 28518 ∨ w = 1650814060 ∨ w = 1819243876 ∨ w = 8319400174449812850 ∨ w = 6644082 ∨ w = 24948 ∨ w = 108187867505765
theorem zcmp_t {α : Type} {a b : Int64} {x y : Option α} (h : a = b) : (if lg_cmp a b = 0 then x else y) = x := if_pos (lg_cmp_0.mpr h)
theorem zcmp_f {α : Type} {a b : Int64} {x y : Option α} (h : ¬ a = b) : (if lg_cmp a b = 0 then x else y) = y := if_neg (fun q => h (lg_cmp_0.mp q))
theorem sfi_n {N : Nat} {w : Int64} (h : ¬ isKw w) : Teller_standsForItself N w = some 0 := by
  unfold isKw at h
  simp only [not_or] at h
  obtain ⟨h1, h2, h3, h4, h5, h6, h7, h8, h9⟩ := h
  unfold Teller_standsForItself Teller_standsForItself_b0
  rw [zcmp_f h1, zcmp_f h2, zcmp_f h3, zcmp_f h4, zcmp_f h5, zcmp_f h6, zcmp_f h7, zcmp_f h8, zcmp_f h9]
theorem sfi_y {N : Nat} {w : Int64} (h : isKw w) : Teller_standsForItself N w = some 1 := by
  unfold Teller_standsForItself Teller_standsForItself_b0 Teller_standsForItself_b72
  by_cases h1 : w = 1751478884
  · rw [zcmp_t h1]
  rw [zcmp_f h1]
  by_cases h2 : w = 422607680372
  · rw [zcmp_t h2]
  rw [zcmp_f h2]
  by_cases h3 : w = 28518
  · rw [zcmp_t h3]
  rw [zcmp_f h3]
  by_cases h4 : w = 1650814060
  · rw [zcmp_t h4]
  rw [zcmp_f h4]
  by_cases h5 : w = 1819243876
  · rw [zcmp_t h5]
  rw [zcmp_f h5]
  by_cases h6 : w = 8319400174449812850
  · rw [zcmp_t h6]
  rw [zcmp_f h6]
  by_cases h7 : w = 6644082
  · rw [zcmp_t h7]
  rw [zcmp_f h7]
  by_cases h8 : w = 24948
  · rw [zcmp_t h8]
  rw [zcmp_f h8]
  by_cases h9 : w = 108187867505765
  · rw [zcmp_t h9]
  exact absurd h (by unfold isKw; simp only [not_or]; exact ⟨h1, h2, h3, h4, h5, h6, h7, h8, h9⟩)
theorem Mo_isName_y {N : Nat} {s : zSt} (h6 : zI s 6 = 1) (h : ¬ isKw (zL s 9)) : Mo_isName N s = some 1 := by
  unfold isKw at h
  simp only [not_or] at h
  obtain ⟨h1, h2, h3, h4, h5, h6', h7, h8, h9⟩ := h
  unfold Mo_isName Mo_isName_b0
  rw [if_pos h6, zcmp_f h1, zcmp_f h2, zcmp_f h3, zcmp_f h4, zcmp_f h5, zcmp_f h6', zcmp_f h7, zcmp_f h8, zcmp_f h9]
theorem Mo_isName_n {N : Nat} {s : zSt} (h : ¬ zI s 6 = 1 ∨ isKw (zL s 9)) : Mo_isName N s = some 0 := by
  unfold Mo_isName Mo_isName_b0
  by_cases h6 : zI s 6 = 1
  · rw [if_pos h6]
    have h : isKw (zL s 9) := h.elim (fun q => absurd h6 q) id
    generalize zL s 9 = w at h ⊢
    by_cases h1 : w = 1751478884
    · rw [zcmp_t h1]
    rw [zcmp_f h1]
    by_cases h2 : w = 422607680372
    · rw [zcmp_t h2]
    rw [zcmp_f h2]
    by_cases h3 : w = 28518
    · rw [zcmp_t h3]
    rw [zcmp_f h3]
    by_cases h4 : w = 1650814060
    · rw [zcmp_t h4]
    rw [zcmp_f h4]
    by_cases h5 : w = 1819243876
    · rw [zcmp_t h5]
    rw [zcmp_f h5]
    by_cases h6 : w = 8319400174449812850
    · rw [zcmp_t h6]
    rw [zcmp_f h6]
    by_cases h7 : w = 6644082
    · rw [zcmp_t h7]
    rw [zcmp_f h7]
    by_cases h8 : w = 24948
    · rw [zcmp_t h8]
    rw [zcmp_f h8]
    by_cases h9 : w = 108187867505765
    · rw [zcmp_t h9]
    exact absurd h (by unfold isKw; simp only [not_or]; exact ⟨h1, h2, h3, h4, h5, h6, h7, h8, h9⟩)
  · rw [if_neg h6]
theorem Mo_isWord_eq {N : Nat} {s : zSt} {v : Int64} : Mo_isWord N s v = some (if zI s 6 = 1 ∧ zL s 9 = v then 1 else 0) := by
  unfold Mo_isWord Mo_isWord_b0
  by_cases h6 : zI s 6 = 1
  · rw [if_pos h6]
    by_cases h9 : zL s 9 = v
    · rw [zcmp_t h9, if_pos ⟨h6, h9⟩]
    · rw [zcmp_f h9, if_neg (fun q => h9 q.2)]
  · rw [if_neg h6, if_neg (fun q => h6 q.1)]
/-- the place of a name among the first c ones, or none -/
def isFd (f : Nat → Int64) (c : Nat) (w : Int64) (r : Int32) : Prop := (r = -1 ∧ ∀ i, i < c → f i ≠ w) ∨ ∃ i, i < c ∧ r = nI i ∧ f i = w
theorem isFd.uniq {f g : Nat → Int64} {c : Nat} {w : Int64} {r q : Int32} (hc : c < 2 ^ 31) (e : ∀ i, i < c → f i = g i) (hd : ∀ i k, i < c → k < c → f i = f k → i = k) (h : isFd f c w r) (k : isFd g c w q) : r = q := by
  rcases h with ⟨h1, h2⟩ | ⟨i, h1, h2, h3⟩
  · rcases k with ⟨k1, k2⟩ | ⟨i, k1, k2, k3⟩
    · rw [h1, k1]
    · exact absurd (by rw [e i k1]; exact k3) (h2 i k1)
  · rcases k with ⟨k1, k2⟩ | ⟨l, k1, k2, k3⟩
    · exact absurd (by rw [← e i h1]; exact h3) (k2 i h1)
    · rw [h2, k2, hd i l h1 k1 (by rw [h3, e l k1, k3])]
theorem Teller_find_ok {N : Nat} {n0 c : Nat} {f : Nat → Int64} {w : Int64} (hc : c ≤ n0) (hn : n0 < 100) (hN : 1600 ≤ N) : ∃ r, isFd f c w r ∧ Teller_find N n0 f w (nI c) = some r := by
  have go : ∀ (k i : Nat), i ≤ c → c - i < k → (∀ l, l < i → f l ≠ w) → ∃ r, isFd f c w r ∧ Teller_find_h3 N n0 f w (nI c) k (nI i) = some r := by
    intro k
    induction k with
    | zero => intro i _ h; exact absurd h (by omega)
    | succ k ih =>
      intro i hi hk hl
      rw [Teller_find_h3_s]
      unfold Teller_find_b3
      by_cases hic : i < c
      · rw [if_neg (fun q => absurd ((nI_leI (by omega) (by omega)).mp q) (by omega)), if_neg (show ¬ Int32.ofNat n0 ≤ nI i from fun q => absurd ((nI_leI (a := n0) (b := i) (by omega) (by omega)).mp q) (by omega)), zck_in (vp_in_nI (by omega) (by omega)), nI_clamp (by omega)]
        by_cases hw : f i = w
        · rw [zcmp_t hw]; exact ⟨nI i, Or.inr ⟨i, hic, rfl, hw⟩, rfl⟩
        · rw [zcmp_f hw, nI_1]
          exact ih (i + 1) (by omega) (by omega) (fun l hl2 => by
            rcases Nat.lt_or_ge l i with q | q
            · exact hl l q
            · rw [show l = i by omega]; exact hw)
      · rw [if_pos ((nI_leI (by omega) (by omega)).mpr (by omega))]
        exact ⟨-1, Or.inl ⟨rfl, fun l h => hl l (by omega)⟩, rfl⟩
  unfold Teller_find Teller_find_b0
  exact go N 0 (by omega) (by omega) (fun l h => absurd h (by omega))
theorem Mo_find_ok {N : Nat} {b c : Nat} {s : zSt} (hc : b + c ≤ 48) (hN : 1600 ≤ N) : ∃ r, isFd (fun i => zB s 10 (b + i)) c (zL s 9) r ∧ Mo_find N s (nI b) (nI c) = some r := by
  have go : ∀ (k i : Nat) (v : Int32), i ≤ c → c - i < k → isFd (fun i => zB s 10 (b + i)) i (zL s 9) v → ∃ r, isFd (fun i => zB s 10 (b + i)) c (zL s 9) r ∧ Mo_find_h5 N s (nI b) (nI c) k v (nI i) = some r := by
    intro k
    induction k with
    | zero => intro i v _ h; exact absurd h (by omega)
    | succ k ih =>
      intro i v hi hk hv
      rw [Mo_find_h5_s]
      unfold Mo_find_b5
      by_cases hic : i < c
      · rw [if_neg (fun q => absurd ((nI_leI (by omega) (by omega)).mp q) (by omega)), nI_add, zck_in (vp_in_nI (by omega) (by decide)), nI_clamp (by omega)]
        unfold Mo_find_b34
        by_cases hw : zB s 10 (b + i) = zL s 9
        · rw [zcmp_t hw, nI_1]
          exact ih (i + 1) _ (by omega) (by omega) (Or.inr ⟨i, by omega, rfl, hw⟩)
        · rw [zcmp_f hw, nI_1]
          refine ih (i + 1) _ (by omega) (by omega) ?_
          rcases hv with ⟨h1, h2⟩ | ⟨l, h1, h2, h3⟩
          · refine Or.inl ⟨h1, fun l h => ?_⟩
            rcases Nat.lt_or_ge l i with q | q
            · exact h2 l q
            · rw [show l = i by omega]; exact hw
          · exact Or.inr ⟨l, by omega, h2, h3⟩
      · rw [if_pos ((nI_leI (by omega) (by omega)).mpr (by omega))]
        have : i = c := by omega
        subst this
        exact ⟨v, hv, rfl⟩
  unfold Mo_find Mo_find_b0
  exact go N 0 (-1) (by omega) (by omega) (Or.inl ⟨rfl, fun l h => absurd h (by omega)⟩)
/-! the Teller's takes, told by the token at hand. A failed take: its fault and its place. -/
/-- the Teller behind a take that failed -/
def tF (z : zSt) (F pl : Nat) : Prop := zI z 0 = nI F ∧ zI z 1 = nI pl
/-- the Teller behind a good take of the j-th token, nothing else changed -/
def tG (s z : zSt) (j : Nat) : Prop := zI z 3 = nI (j + 1) ∧ zI z 0 = zI s 0 ∧ zI z 1 = zI s 1
theorem Teller_take_ok {N : Nat} {T : Nat → Nat} {n m j so pl nu nx : Nat} {w : Int64} {sT sR : zSt} (hR : rdR sR T n m) (hj : j < m) (hc : CT T n j so pl w nu nx) (h3 : zI sT 3 = nI j) (v : Nat) (hv : v < 5) (hv1 : v ≠ 1) :
    (zcode so = v → ∃ z, Teller_take N sT sR (nI v) = some (1, z) ∧ tG sT z j ∧ zI z 4 = nI pl ∧ (so = 1 → zL z 5 = w) ∧ (so = 2 → zL z 5 = lN nu)) ∧
    (zcode so ≠ v → ∃ z, Teller_take N sT sR (nI v) = some (0, z) ∧ tF z (if so = 3 then 1 else 2) pl) := by
  obtain ⟨b, hb1, hb2, e⟩ := Teller_take_eq (N := N) hR hj hc h3 v hv hv1
  constructor
  · intro h
    rw [if_pos h] at e
    exact ⟨_, e, ⟨rfl, rfl, rfl⟩, rfl, hb1, hb2⟩
  · intro h
    rw [if_neg h] at e
    refine ⟨_, e, ?_, rfl⟩
    show (if so = 3 then (1 : Int32) else 2) = _
    by_cases h3 : so = 3
    · rw [if_pos h3, if_pos h3]; rfl
    · rw [if_neg h3, if_neg h3]; rfl
theorem zcode_w {so : Nat} (h : so = 0 ∨ so = 1 ∨ so = 2 ∨ so = 3 ∨ so = 59) : zcode so = 2 ↔ so = 1 := by rcases h with h | h | h | h | h <;> subst h <;> decide
theorem zcode_n {so : Nat} (h : so = 0 ∨ so = 1 ∨ so = 2 ∨ so = 3 ∨ so = 59) : zcode so = 3 ↔ so = 2 := by rcases h with h | h | h | h | h <;> subst h <;> decide
theorem zcode_s {so : Nat} (h : so = 0 ∨ so = 1 ∨ so = 2 ∨ so = 3 ∨ so = 59) : zcode so = 4 ↔ so = 59 := by rcases h with h | h | h | h | h <;> subst h <;> decide
theorem CT.so {T : Nat → Nat} {n j so pl nu nx : Nat} {w : Int64} (h : CT T n j so pl w nu nx) : so = 0 ∨ so = 1 ∨ so = 2 ∨ so = 3 ∨ so = 59 := by obtain ⟨a, _, _, h⟩ := h; exact h.so
/-- a fault by what the token is -/
def zfl (so k : Nat) : Nat := if so = 3 then 1 else k
theorem Teller_takeName_ok {N : Nat} {T : Nat → Nat} {n m j so pl nu nx : Nat} {w : Int64} {sT sR : zSt} (hR : rdR sR T n m) (hj : j < m) (hc : CT T n j so pl w nu nx) (h3 : zI sT 3 = nI j) :
    ((so = 1 ∧ ¬ isKw w) → ∃ z, Teller_takeName N sT sR = some (1, z) ∧ tG sT z j ∧ zI z 4 = nI pl ∧ zL z 5 = w) ∧
    (¬ (so = 1 ∧ ¬ isKw w) → ∃ z, Teller_takeName N sT sR = some (0, z) ∧ tF z (zfl so 2) pl) := by
  obtain ⟨hy, hn⟩ := Teller_take_ok (N := N) hR hj hc h3 2 (by decide) (by decide)
  unfold Teller_takeName Teller_takeName_b0
  constructor
  · rintro ⟨h1, h2⟩
    obtain ⟨z, e, g1, g2, g3, g4⟩ := hy ((zcode_w hc.so).mpr h1)
    rw [show (2 : Int32) = nI 2 from rfl, e]
    simp only [zbs]
    rw [if_neg (by decide), g3 h1, sfi_n h2]
    simp only [zbs]
    rw [if_pos trivial]
    exact ⟨z, rfl, g1, g2, g3 h1⟩
  · intro h
    by_cases h1 : so = 1
    · have h2 : isKw w := Classical.byContradiction fun q => h ⟨h1, q⟩
      obtain ⟨z, e, g1, g2, g3, g4⟩ := hy ((zcode_w hc.so).mpr h1)
      rw [show (2 : Int32) = nI 2 from rfl, e]
      simp only [zbs]
      rw [if_neg (by decide), g3 h1, sfi_y h2]
      simp only [zbs]
      rw [if_neg (by decide)]
      unfold Teller_refuse Teller_refuse_b0
      simp only [zbs]
      rw [if_pos trivial]
      refine ⟨_, rfl, ?_, g2⟩
      unfold zfl
      rw [if_neg (by omega)]
      rfl
    · obtain ⟨z, e, g1⟩ := hn (fun q => h1 ((zcode_w hc.so).mp q))
      rw [show (2 : Int32) = nI 2 from rfl, e]
      simp only [zbs]
      rw [if_pos trivial]
      exact ⟨z, rfl, g1⟩
theorem Teller_takeWord_ok {N : Nat} {T : Nat → Nat} {n m j so pl nu nx : Nat} {w : Int64} {sT sR : zSt} (hR : rdR sR T n m) (hj : j < m) (hc : CT T n j so pl w nu nx) (h3 : zI sT 3 = nI j) (v : Int64) :
    ((so = 1 ∧ w = v) → ∃ z, Teller_takeWord N sT sR v = some (1, z) ∧ tG sT z j) ∧
    (¬ (so = 1 ∧ w = v) → ∃ z, Teller_takeWord N sT sR v = some (0, z) ∧ tF z (zfl so 2) pl) := by
  obtain ⟨hy, hn⟩ := Teller_take_ok (N := N) hR hj hc h3 2 (by decide) (by decide)
  unfold Teller_takeWord Teller_takeWord_b0
  constructor
  · rintro ⟨h1, h2⟩
    obtain ⟨z, e, g1, g2, g3, g4⟩ := hy ((zcode_w hc.so).mpr h1)
    rw [show (2 : Int32) = nI 2 from rfl, e]
    simp only [zbs]
    rw [if_neg (by decide), g3 h1, zcmp_t h2]
    exact ⟨z, rfl, g1⟩
  · intro h
    by_cases h1 : so = 1
    · have h2 : ¬ w = v := fun q => h ⟨h1, q⟩
      obtain ⟨z, e, g1, g2, g3, g4⟩ := hy ((zcode_w hc.so).mpr h1)
      rw [show (2 : Int32) = nI 2 from rfl, e]
      simp only [zbs]
      rw [if_neg (by decide), g3 h1, zcmp_f h2]
      unfold Teller_refuse Teller_refuse_b0
      simp only [zbs]
      rw [if_pos trivial]
      refine ⟨_, rfl, ?_, g2⟩
      unfold zfl
      rw [if_neg (by omega)]
      rfl
    · obtain ⟨z, e, g1⟩ := hn (fun q => h1 ((zcode_w hc.so).mp q))
      rw [show (2 : Int32) = nI 2 from rfl, e]
      simp only [zbs]
      rw [if_pos trivial]
      exact ⟨z, rfl, g1⟩
