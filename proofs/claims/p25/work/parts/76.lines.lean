/-! numbers and new names, on both sides -/
theorem lN_ltI {a b : Nat} (ha : a < 2 ^ 31) (hb : b < 2 ^ 31) : lN a < lN b ↔ a < b := lN_lt ha hb
theorem Teller_takeNumber_ok {N : Nat} {T : Nat → Nat} {n m j so pl nu nx : Nat} {w : Int64} {sT sR : zSt} (hR : rdR sR T n m) (hj : j < m) (hc : CT T n j so pl w nu nx) (h3 : zI sT 3 = nI j) (lo hi : Nat) (hlo : lo < 1000) (hhi : hi < 1000) :
    ((so = 2 ∧ lo ≤ nu ∧ nu ≤ hi) → ∃ z, Teller_takeNumber N sT sR (nI lo) (nI hi) = some (1, z) ∧ tG sT z j ∧ zL z 5 = lN nu) ∧
    (¬ (so = 2 ∧ lo ≤ nu ∧ nu ≤ hi) → ∃ z, Teller_takeNumber N sT sR (nI lo) (nI hi) = some (0, z) ∧ tF z (zfl so (if so = 2 then 4 else 2)) pl) := by
  obtain ⟨hy, hn⟩ := Teller_take_ok (N := N) hR hj hc h3 3 (by decide) (by decide)
  have hnu : nu < 10000 := by obtain ⟨a, _, _, q⟩ := hc; exact q.nu
  unfold Teller_takeNumber Teller_takeNumber_b0
  rw [nI_l (by omega), nI_l (by omega)]
  constructor
  · rintro ⟨a1, a2, a3⟩
    obtain ⟨z, e, g1, g2, g3, g4⟩ := hy ((zcode_n hc.so).mpr a1)
    rw [show (3 : Int32) = nI 3 from rfl, e]
    simp only [zbs]
    rw [if_neg (by decide), g4 a1, if_neg (fun q => absurd ((lN_lt (by omega) (by omega)).mp ((lg_cmp_lt _ _).mp q)) (by omega)), if_pos ((lg_cmp_le _ _).mpr ((lN_le (by omega) (by omega)).mpr a3))]
    exact ⟨z, rfl, g1, g4 a1⟩
  · intro h
    by_cases a1 : so = 2
    · obtain ⟨z, e, g1, g2, g3, g4⟩ := hy ((zcode_n hc.so).mpr a1)
      have b28 : ∃ z', Teller_takeNumber_b28 N z sR = some (0, z') ∧ tF z' (zfl so (if so = 2 then 4 else 2)) pl := by
        unfold Teller_takeNumber_b28 Teller_refuse Teller_refuse_b0
        simp only [zbs]
        rw [if_pos trivial]
        refine ⟨_, rfl, ?_, g2⟩
        unfold zfl
        rw [if_neg (by omega), if_pos a1]
        rfl
      rw [show (3 : Int32) = nI 3 from rfl, e]
      simp only [zbs]
      rw [if_neg (by decide), g4 a1]
      by_cases a2 : nu < lo
      · rw [if_pos ((lg_cmp_lt _ _).mpr ((lN_lt (by omega) (by omega)).mpr a2))]
        exact b28
      · rw [if_neg (fun q => a2 ((lN_lt (by omega) (by omega)).mp ((lg_cmp_lt _ _).mp q))), if_neg (fun q => h ⟨a1, by omega, (lN_le (by omega) (by omega)).mp ((lg_cmp_le _ _).mp q)⟩)]
        exact b28
    · obtain ⟨z, e, g1⟩ := hn (fun q => a1 ((zcode_n hc.so).mp q))
      rw [show (3 : Int32) = nI 3 from rfl, e]
      simp only [zbs]
      rw [if_pos trivial]
      refine ⟨z, rfl, ?_⟩
      rw [if_neg a1]
      exact g1
/-- is a word among the first c names? -/
def inN (f : Nat → Int64) (c : Nat) (w : Int64) : Prop := ∃ i, i < c ∧ f i = w
theorem isFd.inN {f : Nat → Int64} {c : Nat} {w : Int64} {r : Int32} (h : isFd f c w r) (hc : c < 1000) : (inN f c w → ¬ r = -1 ∧ ¬ r < 0) ∧ (¬ inN f c w → r = -1) := by
  constructor
  · rintro ⟨i, h1, h2⟩
    rcases h with ⟨_, k2⟩ | ⟨l, k1, k2, k3⟩
    · exact absurd h2 (k2 i h1)
    · rw [k2]
      refine ⟨fun q => ?_, nI_pos (by omega)⟩
      have : ¬ nI l < 0 := nI_pos (by omega)
      rw [q] at this
      exact this (by decide)
  · intro hn
    rcases h with ⟨k1, _⟩ | ⟨l, k1, k2, k3⟩
    · exact k1
    · exact absurd ⟨l, k1, k3⟩ hn
theorem Teller_takeNewName_ok {N : Nat} (hN : 1600 ≤ N) {T : Nat → Nat} {n m j so pl nu nx n1 c : Nat} {w : Int64} {sT sR : zSt} {f : Nat → Int64} (hR : rdR sR T n m) (hj : j < m) (hc : CT T n j so pl w nu nx) (h3 : zI sT 3 = nI j) (h1 : c ≤ n1) (h2 : n1 < 100) :
    ((so = 1 ∧ ¬ isKw w ∧ ¬ inN f c w) → ∃ z, Teller_takeNewName N sT n1 f sR (nI c) = some (1, z) ∧ tG sT z j ∧ zL z 5 = w) ∧
    (¬ (so = 1 ∧ ¬ isKw w ∧ ¬ inN f c w) → ∃ z, Teller_takeNewName N sT n1 f sR (nI c) = some (0, z) ∧ tF z (zfl so (if so = 1 ∧ ¬ isKw w then 3 else 2)) pl) := by
  obtain ⟨hy, hn⟩ := Teller_takeName_ok (N := N) hR hj hc h3
  unfold Teller_takeNewName Teller_takeNewName_b0
  obtain ⟨r, hr, er⟩ := Teller_find_ok (N := N) (f := f) (w := w) h1 h2 hN
  obtain ⟨r1, r2⟩ := hr.inN (by omega)
  constructor
  · rintro ⟨a1, a2, a3⟩
    obtain ⟨z, e, g1, g2, g3⟩ := hy ⟨a1, a2⟩
    rw [e]
    simp only [zbs]
    rw [if_neg (by decide), g3, er]
    simp only [zbs]
    rw [if_pos (r2 a3)]
    exact ⟨z, rfl, g1, g3⟩
  · intro h
    by_cases a1 : so = 1 ∧ ¬ isKw w
    · have a3 : inN f c w := Classical.byContradiction fun q => h ⟨a1.1, a1.2, q⟩
      obtain ⟨z, e, g1, g2, g3⟩ := hy a1
      rw [e]
      simp only [zbs]
      rw [if_neg (by decide), g3, er]
      simp only [zbs]
      rw [if_neg (r1 a3).1]
      unfold Teller_refuse Teller_refuse_b0
      simp only [zbs]
      rw [if_pos trivial]
      refine ⟨_, rfl, ?_, g2⟩
      unfold zfl
      rw [if_neg (by omega), if_pos a1]
      rfl
    · obtain ⟨z, e, g1⟩ := hn a1
      rw [e]
      simp only [zbs]
      rw [if_pos trivial, if_neg a1]
      exact ⟨z, rfl, g1⟩
/-- the reference behind a new name: the name is put down, the next token at hand -/
def mN (s z : zSt) (T : Nat → Nat) (n j i : Nat) (w : Int64) : Prop := (∀ k, k ≠ 2 → k ≠ 3 → k ≠ 4 → k ≠ 6 → k ≠ 7 → k ≠ 8 → zI z k = zI s k) ∧ zA z = zA s ∧ (∀ k, k ≠ 10 → zB z k = zB s k) ∧ (∀ l, zB z 10 l = if l = i then w else zB s 10 l) ∧ zI z 2 = 0 ∧ ∃ so pl w nu nx, moC z T n j so pl w nu nx
theorem Mo_newName_ok {N : Nat} (hN : 1600 ≤ N) {T : Nat → Nat} {n j so0 pl0 nu0 nx0 so pl nu nx b c : Nat} {w0 w : Int64} {s : zSt} (h : moC s T n j so0 pl0 w0 nu0 nx0) (h2 : zI s 2 = 0) (g0 : so0 ≠ 0) (g3 : so0 ≠ 3) (hc : CT T n (j + 1) so pl w nu nx) (hb : b + c < 48) :
    ((so = 1 ∧ ¬ isKw w ∧ ¬ inN (fun i => zB s 10 (b + i)) c w) → ∃ z, Mo_newName N s (nI b) (nI c) = some z ∧ mN s z T n (j + 2) (b + c) w) ∧
    (¬ (so = 1 ∧ ¬ isKw w ∧ ¬ inN (fun i => zB s 10 (b + i)) c w) → ∃ z, Mo_newName N s (nI b) (nI c) = some z ∧ mK s z ∧ mF z (zfl so (if so = 1 ∧ ¬ isKw w then 3 else 2)) pl) := by
  obtain ⟨z1, e1, k1, k2, so', pl', w', nu', nx', k3⟩ := Mo_token_G hN h h2 g0 g3
  obtain ⟨u1, u2, u3, u4, u5⟩ := CT.uniq k3.2.1 hc
  subst u1 u2 u3 u4 u5
  have m3 : moC (zmg [10] z1 s) T n (j + 1) so' pl' w' nu' nx' := k3.mg k1.2.1
  have m2 : zI (zmg [10] z1 s) 2 = 0 := k2
  have m1 : mK s (zmg [10] z1 s) := k1.mg
  have hso := hc.so
  have h6 := m3.2.2.1
  have h9 := m3.2.2.2.2.1
  unfold Mo_newName Mo_newName_b0
  rw [e1]
  simp only [zbs]
  generalize zmg [10] z1 s = y at m1 m2 m3 h6 h9 ⊢
  have bad : ∀ k : Nat, 0 < k → k ≤ 5 → ∃ z, (Mo_wrong N y (nI k)).bind (fun z11 => Mo_newName_b33 N (zmg [0, 10] z11 y) (nI b) (nI c)) = some z ∧ mK s z ∧ mF z (zfl so' k) pl' := by
    intro k hk hk5
    obtain ⟨z, e, q1, q2, q3⟩ := Mo_wrong_ok (N := N) m3 m2 k
    rw [e]
    simp only [zbs]
    have q4 : mF (zmg [0, 10] z y) (zfl so' k) pl' := q2
    unfold Mo_newName_b33
    rw [if_neg (q4.ne (zfl_pos hk) (zfl_le hk5)).1]
    exact ⟨_, rfl, m1.trans q1.mg, q4⟩
  obtain ⟨r, hr, er⟩ := Mo_find_ok (N := N) (s := y) (b := b) (c := c) (by omega) hN
  rw [h9, show (fun i => zB y 10 (b + i)) = (fun i => zB s 10 (b + i)) by rw [m1.2.2]] at hr
  obtain ⟨r1, r2⟩ := hr.inN (by omega)
  constructor
  · rintro ⟨a1, a2, a3⟩
    rw [Mo_isName_y (by rw [h6, a1]; rfl) (by rw [h9]; exact a2)]
    simp only [zbs]
    rw [if_neg (by decide), er]
    simp only [zbs]
    rw [if_pos (by rw [r2 a3]; decide)]
    unfold Mo_newName_b33
    rw [if_pos (by rw [m2]; decide), nI_add, zck_in (vp_in_nI (by omega) (by decide)), nI_clamp (by omega), h9]
    have hy : moC (zsB y 10 (vp_updL (zB y 10) (b + c) w')) T n (j + 1) so' pl' w' nu' nx' := m3
    obtain ⟨z, e, q1, q2, q3⟩ := Mo_token_G hN hy m2 (by omega) (by omega)
    rw [e]
    refine ⟨_, rfl, fun k p1 p2 p3 p4 p5 p6 => (q1.1 k p1 p2 p3 p4 p5 p6).trans (m1.1 k p1 p2 p3 p4 p5 p6), (zmg_A q1.2.1).trans m1.2.1, fun k hk => ?_, fun l => ?_, q2, ?_⟩
    · rw [zmg_B q1.2.2, zB_sB, if_neg hk, m1.2.2]
    · rw [zmg_B q1.2.2, zB_sB, if_pos rfl, m1.2.2]
      rfl
    · obtain ⟨t1, t2, t3, t4, t5, t6⟩ := q3
      exact ⟨t1, t2, t3, t4, t5, t6.mg q1.2.1⟩
  · intro hn
    by_cases a1 : so' = 1 ∧ ¬ isKw w'
    · have a3 : inN (fun i => zB s 10 (b + i)) c w' := Classical.byContradiction fun q => hn ⟨a1.1, a1.2, q⟩
      rw [Mo_isName_y (by rw [h6, a1.1]; rfl) (by rw [h9]; exact a1.2)]
      simp only [zbs]
      rw [if_neg (by decide), er]
      simp only [zbs]
      rw [if_neg (r1 a3).2, if_pos a1]
      exact bad 3 (by decide) (by decide)
    · rw [Mo_isName_n (by
        by_cases q : so' = 1
        · exact Or.inr (by rw [h9]; exact Classical.byContradiction fun z => a1 ⟨q, z⟩)
        · exact Or.inl (fun z => q ((zeqL (k := 1) (by omega) (by decide)).mp (h6 ▸ z))))]
      simp only [zbs]
      rw [if_pos trivial, if_neg a1]
      exact bad 2 (by decide) (by decide)
