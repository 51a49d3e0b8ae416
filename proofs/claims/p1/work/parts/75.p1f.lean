/-! sets of no bells: the reference -/
theorem as0 (s : zSt) (a b c d e : Int32) (h : zI s 47 = 0) : Mo_areSo 200 s a b c d e = some 1 := by
  rw [Mo_areSo, Mo_areSo_b0, Mo_areSo_h6_s, Mo_areSo_b6, if_pos (by rw [h]; decide), zcb1]
def mF (v : Int32) : Int32 := if v = 0 then 1 else if v = 1 then 0 else if v = 2 then 0 else if v = 3 then 100 else if v = 4 then 0 else 99
theorem m171 (v3 : Int32) : ∀ (n j : Nat) (s : zSt), j ≤ 100 → 100 < n + j → zI s 29 = 0 → (∀ i, i < 100 → zA s 49 i = 1) → zok (Mo_sets_h171 200 v3 1 0 0 n s (nI j) (if j = 0 then -1 else 0) (if j = 0 then -1 else nI (j - 1)) (nI j)) (fun z => z.1 = mF v3)
  | 0, j, s, h1, h2, h, g => absurd h2 (by omega)
  | n + 1, j, s, h1, h2, h, g => by
    rw [Mo_sets_h171_s, Mo_sets_b171]
    by_cases q : j = 100
    · subst q
      rw [if_pos (by decide), h]
      unfold mF
      by_cases a : v3 = 0
      · rw [if_pos a]; exact zok_some (by rw [if_pos a])
      rw [if_neg a]
      by_cases a1 : v3 = 1
      · rw [if_pos a1, if_neg i01]; exact zok_some (by rw [if_neg a, if_pos a1])
      rw [if_neg a1]
      by_cases a2 : v3 = 2
      · rw [if_pos a2, if_neg i01]; exact zok_some (by rw [if_neg a, if_neg a1, if_pos a2]; show ((1 : Int32) <<< ((0 : Int32) &&& 31) - 1 &&& (0 ^^^ -1)) = 0; decide)
      rw [if_neg a2]
      by_cases a3 : v3 = 3
      · rw [if_pos a3]; exact zok_some (by rw [if_neg a, if_neg a1, if_neg a2, if_pos a3]; show nI 100 = 100; decide)
      rw [if_neg a3]
      by_cases a4 : v3 = 4
      · rw [if_pos a4]; exact zok_some (by rw [if_neg a, if_neg a1, if_neg a2, if_neg a3, if_pos a4]; show (if 100 = 0 then (-1 : Int32) else 0) = 0; decide)
      rw [if_neg a4]; exact zok_some (by rw [if_neg a, if_neg a1, if_neg a2, if_neg a3, if_neg a4]; show (if 100 = 0 then (-1 : Int32) else nI (100 - 1)) = 99; decide)
    · rw [if_neg (fun p => q (by have := (zleR (k := 100) (by omega) (by omega)).mp p; omega)), zck_in (zin (by omega) (by omega)), zc j (by omega), g j (by omega), if_neg i01]
      have IH := m171 v3 n (j + 1) s (by omega) (by omega) h g
      rw [if_neg (Nat.succ_ne_zero j), if_neg (Nat.succ_ne_zero j), Nat.add_sub_cancel] at IH
      by_cases q0 : j = 0
      · subst q0
        rw [if_pos rfl, if_neg (by decide), Mo_sets_b206, Mo_sets_b212, nI_1]
        rw [nI_0] at IH ⊢
        exact IH
      · rw [if_neg q0, if_pos (by decide), Mo_sets_b206, Mo_sets_b212, nI_1]
        exact IH
theorem m86 (k : zSt → Int32 → Int32 → Int32 → Int32 → Option (Int32 × zSt)) (P : Int32 × zSt → Prop) (v1 v2 v3 v4 : Int32) (hk : ∀ s, zI s 29 = 0 → zI s 47 = 0 → (∀ i, i < 100 → zA s 49 i = 1) → zok (k s 1 0 0 1) P) : ∀ (n j : Nat) (s : zSt), j ≤ 100 → 100 < n + j → zI s 29 = 0 → zI s 47 = 0 → (∀ i, i < j → zA s 49 i = 1) → zok (Mo_sets_h86 200 k v1 v2 v3 v4 0 0 0 0 n s (if j = 0 then 0 else 1) (nI j)) P
  | 0, j, s, h1, h2, h, h', g => absurd h2 (by omega)
  | n + 1, j, s, h1, h2, h, h', g => by
    rw [Mo_sets_h86_s, Mo_sets_b86]
    by_cases q : j = 100
    · subst q
      rw [if_pos (by decide), if_neg (by decide), Mo_sets_b153]
      exact hk s h h' g
    · rw [if_neg (fun p => q (by have := (zleR (k := 100) (by omega) (by omega)).mp p; omega)), as0 _ _ _ _ _ _ h', zbs, if_neg i01, zck_in (zin (by omega) (by omega)), zc j (by omega), Mo_sets_b122, nI_1]
      have IH := m86 k P v1 v2 v3 v4 hk n (j + 1) (zsA s 49 (upd (zA s 49) j 1)) (by omega) (by omega) h h' (fun i hi => by
        show (if i = j then 1 else zA s 49 i) = 1
        by_cases e : i = j
        · rw [if_pos e]
        · rw [if_neg e]; exact g i (by omega))
      rw [if_neg (Nat.succ_ne_zero j)] at IH
      exact IH
theorem m69 (v1 v2 v3 v4 : Int32) (s : zSt) (h : zI s 29 = 0) (h' : zI s 47 = 0) : zok (Mo_sets_h69 200 v1 v2 v3 v4 200 s 0 0 0 0) (fun z => z.1 = mF v3) := by
  rw [Mo_sets_h69_s, Mo_sets_b69, if_neg (by rw [h]; decide)]
  have K := m86 (Mo_sets_h69 200 v1 v2 v3 v4 199) (fun z => z.1 = mF v3) v1 v2 v3 v4 (fun t h h' g => by
    rw [Mo_sets_h69_s, Mo_sets_b69, if_pos (by rw [h]; decide)]
    have J := m171 v3 200 0 t (by omega) (by omega) h g
    rw [if_pos rfl, if_pos rfl, nI_0] at J
    exact J) 200 0 s (by omega) (by omega) h h' (fun i hi => absurd hi (by omega))
  rw [if_pos rfl, nI_0] at K
  exact K
theorem m45 (v1 v2 v3 v4 : Int32) : ∀ (n j : Nat) (s : zSt), j ≤ 100 → 100 < n + j → zI s 29 = 0 → zI s 47 = 0 → zok (Mo_sets_h45 200 v1 v2 v3 v4 0 0 0 n s (nI j)) (fun z => z.1 = mF v3)
  | 0, j, s, h1, h2, h, h' => absurd h2 (by omega)
  | n + 1, j, s, h1, h2, h, h' => by
    rw [Mo_sets_h45_s, Mo_sets_b45]
    by_cases q : j = 100
    · subst q
      rw [if_pos (by decide)]
      exact m69 v1 v2 v3 v4 s h h'
    · rw [if_neg (fun p => q (by have := (zleR (k := 100) (by omega) (by omega)).mp p; omega)), zck_in (zin (by omega) (by omega)), nI_1]
      exact m45 v1 v2 v3 v4 n (j + 1) _ (by omega) (by omega) h h'
theorem p_sets (a b c d : Int32) : zeqv (CH_sets 200 zz zz zz zz zz a b c d) (Mo_sets 200 m0 a b c d) (fun z w => z.1 = w.1) := by
  rw [CH_sets, CH_sets_b0, Mo_sets, Mo_sets_b0]
  rcases isq 200 a with ⟨h, k⟩ | ⟨h, k⟩ <;> rw [h, k]
  · exact ⟨_, _, rfl, rfl, rfl⟩
  rw [zbs, zbs, if_neg i01, if_neg i01]
  rcases isw 200 b with ⟨h, k⟩ | ⟨h, k, -⟩ <;> rw [h, k]
  · exact ⟨_, _, rfl, rfl, rfl⟩
  rw [zbs, zbs, if_neg i01, if_neg i01, w_isIn]
  rcases w_cases 200 c 0 5 with h | ⟨h, -⟩ <;> rw [h]
  · exact ⟨_, _, rfl, rfl, rfl⟩
  rw [zbs, zbs, if_neg i01, if_neg i01]
  obtain ⟨bd, e, hb⟩ := bg0 a d
  obtain ⟨z, e2, h0, h1, h2, h3, h4, h5⟩ := seek0 bd hb b
  have M := m45 a b c d 200 0 m0 (by omega) (by omega) rfl rfl
  rw [nI_0] at M
  obtain ⟨y, e3, hy⟩ := M
  rw [e, zbs, e2, zbs, show ((1 : Int32) <<< (zI m0 29 &&& 31)) - 1 = 0 by decide, e3]
  unfold mF at hy
  by_cases a : c = 0
  · rw [if_pos a] at hy; rw [if_pos a]; exact ⟨_, _, rfl, rfl, h0.trans hy.symm⟩
  rw [if_neg a] at hy; rw [if_neg a]
  by_cases a : c = 1
  · rw [if_pos a] at hy; rw [if_pos a]; exact ⟨_, _, rfl, rfl, h1.trans hy.symm⟩
  rw [if_neg a] at hy; rw [if_neg a]
  by_cases a : c = 2
  · rw [if_pos a] at hy; rw [if_pos a]; exact ⟨_, _, rfl, rfl, h2.trans hy.symm⟩
  rw [if_neg a] at hy; rw [if_neg a]
  by_cases a : c = 3
  · rw [if_pos a] at hy; rw [if_pos a]; exact ⟨_, _, rfl, rfl, h3.trans hy.symm⟩
  rw [if_neg a] at hy; rw [if_neg a]
  by_cases a : c = 4
  · rw [if_pos a] at hy; rw [if_pos a]; exact ⟨_, _, rfl, rfl, h4.trans hy.symm⟩
  rw [if_neg a] at hy; rw [if_neg a]
  exact ⟨_, _, rfl, rfl, h5.trans hy.symm⟩
