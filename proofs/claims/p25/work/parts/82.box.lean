theorem kept_same : ∀ K, K < 8 → ∀ j, j < 3 → ∀ i, i < 3 → ¬ i = j → ((((nI K ||| ((1 : Int32) <<< (nI j &&& 31))) >>> (nI i &&& 31)) &&& 1) = 0 ↔ ((nI K >>> (nI i &&& 31)) &&& 1) = 0) := by decide +kernel
theorem kept_here : ∀ K, K < 8 → ∀ j, j < 3 → ¬ (((nI K ||| ((1 : Int32) <<< (nI j &&& 31))) >>> (nI j &&& 31)) &&& 1) = 0 := by decide +kernel
theorem kept_lt : ∀ K, K < 8 → ∀ j, j < 3 → ∃ L, L < 8 ∧ nI K ||| ((1 : Int32) <<< (nI j &&& 31)) = nI L := by
  intro K hK j hj
  refine ⟨K ||| 2 ^ j, ?_, ?_⟩
  · have : 2 ^ j ≤ 2 ^ 2 := Nat.pow_le_pow_right (by decide) (by omega)
    exact Nat.or_lt_two_pow (n := 3) hK (by omega)
  · have : 2 ^ j ≤ 2 ^ 2 := Nat.pow_le_pow_right (by decide) (by omega)
    rw [tshl_all j (by omega), nI_or (by omega) (by omega)]
theorem nwB.keep {M M' B : zSt} {i : Nat} (h : nwB M B i) (e : ∀ k, 16 * i ≤ k → k < 16 * i + 16 → zA M' 63 k = zA M 63 k) : nwB M' B i := by
  obtain ⟨⟨h0, h1, h2, h3, h4⟩, h5⟩ := h
  exact ⟨⟨by rw [e _ (by omega) (by omega)]; exact h0, by rw [e _ (by omega) (by omega)]; exact h1, by rw [e _ (by omega) (by omega)]; exact h2, by rw [e _ (by omega) (by omega)]; exact h3, by rw [e _ (by omega) (by omega)]; exact h4⟩, fun x hx => by rw [e _ (by omega) (by omega)]; exact h5 x hx⟩
/-- another box is kept -/
theorem bx.other {s0 M M' B : zSt} {K i j : Nat} (hK : K < 8) (h7 : zI s0 7 = nI K) (hi : i < 3) (hj : j < 3) (hij : ¬ i = j) (h : bx s0 M B i) (e62 : ∀ k, zA M' 62 k = if k = j then 1 else zA M 62 k) (e63 : ∀ k, (k < 16 * j ∨ 16 * j + 16 ≤ k) → zA M' 63 k = zA M 63 k) : bx (zpI s0 7 (nI K ||| ((1 : Int32) <<< (nI j &&& 31)))) M' B i := by
  obtain ⟨h1, h2⟩ := h
  have e : zA M' 62 i = zA M 62 i := by rw [e62, if_neg hij]
  refine ⟨?_, fun q => ?_⟩
  · rw [zI_pI, if_pos rfl, e, kept_same K hK j hj i hi hij, ← h7]; exact h1
  · rw [e] at q
    exact (h2 q).keep (fun k a b => e63 k (by omega))
/-- this box is kept -/
theorem bx.this {s0 M M' E B : zSt} {K j : Nat} (hK : K < 8) (hj : j < 3) (hn : NowR M E) (e62 : ∀ k, zA M' 62 k = if k = j then 1 else zA M 62 k) (hB : zI B 0 = zI E 0 ∧ zI B 1 = zI E 1 ∧ zI B 2 = zI E 2 ∧ zI B 3 = zI E 3 ∧ zI B 4 = zI E 4 ∧ ∀ i, i < 11 → zA B 5 i = zA E 5 i)
    (e : zA M' 63 (16 * j) = zI M 34 ∧ zA M' 63 (16 * j + 1) = zI M 35 ∧ zA M' 63 (16 * j + 2) = zI M 36 ∧ zA M' 63 (16 * j + 3) = zI M 37 ∧ zA M' 63 (16 * j + 4) = zI M 38) (e5 : ∀ i, i < 11 → zA M' 63 (16 * j + 5 + i) = zA M 33 i) : bx (zpI s0 7 (nI K ||| ((1 : Int32) <<< (nI j &&& 31)))) M' B j := by
  obtain ⟨⟨n0, n1, n2, n3, n4⟩, n5⟩ := hn
  obtain ⟨b0, b1, b2, b3, b4, b5⟩ := hB
  obtain ⟨x0, x1, x2, x3, x4⟩ := e
  have e62 : zA M' 62 j = 1 := by rw [e62, if_pos rfl]
  refine ⟨?_, fun _ => ⟨⟨?_, ?_, ?_, ?_, ?_⟩, fun i hi => ?_⟩⟩
  · rw [zI_pI, if_pos rfl, e62]
    exact ⟨fun q => absurd q (kept_here K hK j hj), fun q => absurd q (by decide)⟩
  · rw [x0, b0, n0]
  · rw [x1, b1, n1]
  · rw [x2, b2, n2]
  · rw [x3, b3, n3]
  · rw [x4, b4, n4]
  · rw [e5 i hi, b5 i hi, n5 i hi]
theorem image_two {N : Nat} (hN : 1600 ≤ N) {s0 B0 B1 B2 E M : zSt} {v : Int32} (hn : NowR M E) (hB : BoxR s0 M B0 B1 B2) : ∃ z y, CH_image N s0 B0 E B1 B2 v = some z ∧ Mo_image N M v = some y ∧ z.1 = y.1 ∧ BoxR z.2.1 y.2 z.2.2.1 z.2.2.2.1 z.2.2.2.2 := by
  rcases box01 (N := N) (v := v) with ⟨q1, q2⟩ | ⟨q1, q2, j, hj, rfl⟩
  · unfold CH_image CH_image_b0 Mo_image Mo_image_b0
    rw [q1, q2]
    simp only [zbs]
    exact ⟨_, _, rfl, rfl, rfl, hB⟩
  · obtain ⟨⟨K, hK, h7⟩, b0, b1, b2⟩ := hB
    obtain ⟨y, ey, y1, y2, y3, y62, y63, y33, y4⟩ := Mo_image_ok (N := N) (M := M) hN hj
    have hk := kept_lt K hK j hj
    have ans : zI E 4 = y.1 := by rw [y1]; exact hn.1.2.2.2.2.symm
    unfold CH_image CH_image_b0
    rw [q1, ey]
    simp only [zbs]
    rw [if_neg n10, h7]
    by_cases c0 : j = 0
    · subst c0
      obtain ⟨z, ez, hz⟩ := copy_eq (N := N) (A := B0) (B := E)
      rw [if_pos (show nI 0 = 0 from rfl), ez]
      exact ⟨_, y, rfl, rfl, ans, hk, bx.this hK hj hn y62 hz y63 y33, b1.other hK h7 (by decide) hj (by decide) y62 y4, b2.other hK h7 (by decide) hj (by decide) y62 y4⟩
    by_cases c1 : j = 1
    · subst c1
      obtain ⟨z, ez, hz⟩ := copy_eq (N := N) (A := B1) (B := E)
      rw [if_neg (show ¬ nI 1 = 0 by decide), if_pos (show nI 1 = 1 from rfl), ez]
      exact ⟨_, y, rfl, rfl, ans, hk, b0.other hK h7 (by decide) hj (by decide) y62 y4, bx.this hK hj hn y62 hz y63 y33, b2.other hK h7 (by decide) hj (by decide) y62 y4⟩
    · obtain rfl : j = 2 := by omega
      obtain ⟨z, ez, hz⟩ := copy_eq (N := N) (A := B2) (B := E)
      rw [if_neg (show ¬ nI 2 = 0 by decide), if_neg (show ¬ nI 2 = 1 by decide), if_pos (show nI 2 = 2 from rfl), ez]
      exact ⟨_, y, rfl, rfl, ans, hk, b0.other hK h7 (by decide) hj (by decide) y62 y4, b1.other hK h7 (by decide) hj (by decide) y62 y4, bx.this hK hj hn y62 hz y63 y33⟩
theorem back_loop {N j : Nat} (hj : j < 3) : ∀ (f i : Nat) (s : zSt), i ≤ 11 → 11 - i < f → zok (Mo_back_h93 N (nI j) f s (nI i)) (fun y => y.1 = zI s 38 ∧ zI y.2 = zI s ∧ ∀ x, zA y.2 33 x = if i ≤ x ∧ x < 11 then zA s 63 (16 * j + 5 + x) else zA s 33 x) := by
  intro f
  induction f with
  | zero => intro i s _ h; exact absurd h (by omega)
  | succ f ih =>
    intro i s hi hf
    rw [Mo_back_h93_s]
    unfold Mo_back_b93
    by_cases e : i = 11
    · subst e
      rw [if_pos (by decide)]
      exact zok_some ⟨rfl, rfl, fun k => by rw [if_neg (by omega)]⟩
    · have em : (16 : Int32) * nI j + 5 + nI i = nI (16 * j + 5 + i) := by rw [mul16 j hj, show (nI (16 * j) + 5 : Int32) = nI (16 * j + 5) from nI_add _ 5, nI_add]
      rw [if_neg (fun q => absurd ((zleR (k := 11) (by omega) (by decide)).mp q) (by omega)), em, zck_in (vp_in_nI (by omega) (by decide)), zck_in (vp_in_nI (by omega) (by decide)), nI_clamp (by omega), nI_clamp (by omega), nI_1]
      refine zok_mono (ih (i + 1) _ (by omega) (by omega)) (fun y hy => ?_)
      obtain ⟨y1, y2, y4⟩ := hy
      refine ⟨y1, y2, fun x => ?_⟩
      have r63 : zA (zsA s 33 (upd (zA s 33) i (zA s 63 (16 * j + 5 + i)))) 63 = zA s 63 := by rw [zA_sA, if_neg (by decide)]
      have r33 : zA (zsA s 33 (upd (zA s 33) i (zA s 63 (16 * j + 5 + i)))) 33 = upd (zA s 33) i (zA s 63 (16 * j + 5 + i)) := by rw [zA_sA, if_pos rfl]
      rw [y4 x, r63, r33, upd_at]
      by_cases q : x = i
      · rw [if_neg (by omega), if_pos q, if_pos (by omega), q]
      · by_cases r : i ≤ x ∧ x < 11
        · rw [if_pos (by omega), if_pos r]
        · rw [if_neg (by omega), if_neg q, if_neg r]
theorem Mo_back_ok {N j : Nat} (hN : 1600 ≤ N) {M B : zSt} (hj : j < 3) (hb : Mo_isBox N (nI j) = some 1) (h62 : ¬ zA M 62 j = 0) (h : nwB M B j) : ∃ y, Mo_back N M (nI j) = some y ∧ y.1 = zI B 4 ∧ (zI y.2 34 = zI B 0 ∧ zI y.2 35 = zI B 1 ∧ zI y.2 36 = zI B 2 ∧ zI y.2 37 = zI B 3 ∧ zI y.2 38 = zI B 4) ∧ ∀ i, i < 11 → zA y.2 33 i = zA B 5 i := by
  obtain ⟨⟨h0, h1, h2, h3, h4⟩, h5⟩ := h
  have e0 := mul16 j hj
  have e1 : (16 : Int32) * nI j + 1 = nI (16 * j + 1) := by rw [e0]; exact nI_add _ 1
  have e2 : (16 : Int32) * nI j + 2 = nI (16 * j + 2) := by rw [e0]; exact nI_add _ 2
  have e3 : (16 : Int32) * nI j + 3 = nI (16 * j + 3) := by rw [e0]; exact nI_add _ 3
  have e4 : (16 : Int32) * nI j + 4 = nI (16 * j + 4) := by rw [e0]; exact nI_add _ 4
  unfold Mo_back Mo_back_b0 Mo_back_b31 Mo_back_b46 Mo_back_b61 Mo_back_b76 Mo_back_b91
  rw [hb]
  simp only [zbs]
  rw [if_neg n10, zck_in (vp_in_nI (by omega) (by decide)), e1, e2, e3, e4, e0, zck_in (vp_in_nI (by omega) (by decide)), zck_in (vp_in_nI (by omega) (by decide)), zck_in (vp_in_nI (by omega) (by decide)), zck_in (vp_in_nI (by omega) (by decide)), zck_in (vp_in_nI (by omega) (by decide)), nI_clamp (by omega), nI_clamp (by omega), nI_clamp (by omega), nI_clamp (by omega), nI_clamp (by omega), nI_clamp (by omega), if_neg h62]
  refine zok_mono (back_loop hj N 0 _ (by omega) (by omega)) (fun y hy => ?_)
  obtain ⟨y1, y2, y4⟩ := hy
  simp only [zA_pI, zI_pI] at y1
  have yI : ∀ k, zI y.2 k = if k = 38 then zI B 4 else if k = 37 then zI B 3 else if k = 36 then zI B 2 else if k = 35 then zI B 1 else if k = 34 then zI B 0 else zI M k := fun k => by
    rw [y2, ← h0, ← h1, ← h2, ← h3, ← h4]
    simp only [zA_pI, zI_pI]
  refine ⟨?_, ⟨by rw [yI]; rfl, by rw [yI]; rfl, by rw [yI]; rfl, by rw [yI]; rfl, by rw [yI]; rfl⟩, fun i hi => ?_⟩
  · rw [y1, if_pos trivial, h4]
  · rw [y4 i, if_pos (by omega)]
    exact h5 i hi
theorem back_two {N : Nat} (hN : 1600 ≤ N) {s0 B0 B1 B2 E M : zSt} {v : Int32} (hn : NowR M E) (hB : BoxR s0 M B0 B1 B2) : ∃ z y, CH_back N s0 E B0 B1 B2 v = some z ∧ Mo_back N M v = some y ∧ z.1 = y.1 ∧ NowR y.2 z.2 := by
  rcases box01 (N := N) (v := v) with ⟨q1, q2⟩ | ⟨q1, q2, j, hj, rfl⟩
  · unfold CH_back CH_back_b0 Mo_back Mo_back_b0
    rw [q1, q2]
    simp only [zbs]
    exact ⟨_, _, rfl, rfl, rfl, hn⟩
  · obtain ⟨_, b0, b1, b2⟩ := hB
    have go : ∀ B, bx s0 M B j → (∀ z, Earnest_copy N E B = some z → CH_back N s0 E B0 B1 B2 (nI j) = if ((zI s0 7 >>> (nI j &&& 31)) &&& 1) = 0 then some ((-1), E) else some (zI z 4, z)) → ∃ z y, CH_back N s0 E B0 B1 B2 (nI j) = some z ∧ Mo_back N M (nI j) = some y ∧ z.1 = y.1 ∧ NowR y.2 z.2 := by
      intro B hb hrun
      obtain ⟨z, ez, z0, z1, z2, z3, z4, z5⟩ := copy_eq (N := N) (A := E) (B := B)
      rw [hrun z ez]
      by_cases c : zA M 62 j = 0
      · rw [if_pos (hb.1.mpr c)]
        refine ⟨_, (-1, M), rfl, ?_, rfl, hn⟩
        unfold Mo_back Mo_back_b0
        rw [q2]
        simp only [zbs]
        rw [if_neg n10, zck_in (vp_in_nI (by omega) (by decide)), nI_clamp (by omega), if_pos c]
      · obtain ⟨y, ey, y1, ⟨y34, y35, y36, y37, y38⟩, y5⟩ := Mo_back_ok (N := N) hN hj q2 c (hb.2 c)
        rw [if_neg (fun q => c (hb.1.mp q)), ey]
        exact ⟨_, _, rfl, rfl, z4.trans y1.symm, ⟨y34.trans z0.symm, y35.trans z1.symm, y36.trans z2.symm, y37.trans z3.symm, y38.trans z4.symm⟩, fun i hi => by rw [y5 i hi, z5 i hi]⟩
    by_cases c0 : j = 0
    · subst c0
      refine go B0 b0 (fun z ez => ?_)
      unfold CH_back CH_back_b0
      rw [q1]
      simp only [zbs]
      rw [if_neg n10, if_pos (show nI 0 = 0 from rfl), ez]
      rfl
    by_cases c1 : j = 1
    · subst c1
      refine go B1 b1 (fun z ez => ?_)
      unfold CH_back CH_back_b0
      rw [q1]
      simp only [zbs]
      rw [if_neg n10, if_neg (show ¬ nI 1 = 0 by decide), if_pos (show nI 1 = 1 from rfl), ez]
      rfl
    · obtain rfl : j = 2 := by omega
      refine go B2 b2 (fun z ez => ?_)
      unfold CH_back CH_back_b0
      rw [q1]
      simp only [zbs]
      rw [if_neg n10, if_neg (show ¬ nI 2 = 0 by decide), if_neg (show ¬ nI 2 = 1 by decide), if_pos (show nI 2 = 2 from rfl), ez]
      rfl
