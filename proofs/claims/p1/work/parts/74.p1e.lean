/-! a row is filled -/
theorem af_loop (N n0 : Nat) (v : Int32) (hn : n0 < 2 ^ 31) : ∀ (n j : Nat) (f : Nat → Int32), j ≤ n0 → n0 < n + j → zok (Arrays_fill_h5 N n0 v (Int32.ofNat n0) n f (nI j)) (fun g => (∀ i, i < n0 → j ≤ i → g i = v) ∧ ∀ i, i < j ∨ n0 ≤ i → g i = f i)
  | 0, j, f, h1, h2 => absurd h2 (by omega)
  | n + 1, j, f, h1, h2 => by
    rw [Arrays_fill_h5_s, Arrays_fill_b5]
    by_cases h : j = n0
    · subst h
      rw [if_pos (show Int32.ofNat j ≤ nI j from nI_le (Nat.le_refl j) hn)]
      exact zok_some ⟨fun i a b => absurd a (by omega), fun i _ => rfl⟩
    · rw [if_neg (show ¬ Int32.ofNat n0 ≤ nI j from nI_ge (by omega) hn), zck_in (zin (by omega) hn), nI_1, zc j (by omega)]
      refine zok_mono (af_loop N n0 v hn n (j + 1) _ (by omega) (by omega)) (fun g hg => ⟨fun i a b => ?_, fun i a => ?_⟩)
      · by_cases hi : i = j
        · subst hi
          rw [hg.2 i (Or.inl (by omega))]
          exact if_pos rfl
        · exact hg.1 i a (by omega)
      · rw [hg.2 i (by omega)]
        exact if_neg (by omega)
theorem af (N n0 : Nat) (f : Nat → Int32) (v : Int32) (hn : n0 < 2 ^ 31) (hN : n0 < N) : zok (Arrays_fill N n0 f v) (fun g => (∀ i, i < n0 → g i = v) ∧ ∀ i, n0 ≤ i → g i = f i) :=
  zok_mono (af_loop N n0 v hn N 0 f (Nat.zero_le _) (by omega)) (fun g hg => ⟨fun i h => hg.1 i h (Nat.zero_le _), fun i h => hg.2 i (Or.inr h)⟩)
/-! sets of no bells: the class -/
abbrev bI (b : zSt) : Prop := zI b 2 = 0
theorem bI.e {b : zSt} (h : bI b) : zI b 2 = 0 := h
theorem bg0 (u v : Int32) : zok (Bounds_gather 200 zz zz u v) bI := by
  rw [Bounds_gather, Bounds_gather_b0]
  refine zok_bind (af 200 4 _ _ (by omega) (by omega)) (fun g _ => ?_)
  rw [Bounds_gather_h21_s, Bounds_gather_b21, if_pos (by decide)]
  exact zok_some rfl
theorem cb0 (b : zSt) (h : bI b) (n1 n2 : Nat) (f g : Nat → Int32) (v : Int32) : Bounds_canBe 200 b n1 f n2 g v = some 1 := by
  rw [Bounds_canBe, Bounds_canBe_b0, Bounds_canBe_h3_s, Bounds_canBe_b3, if_pos (by rw [h.e]; decide)]
theorem ac_loop (s b : zSt) (h : bI b) : ∀ (n j : Nat), j ≤ 12 → 12 < n + j → Sets_anyCanBe_h2 200 s b n (nI j) = some 1
  | 0, j, h1, h2 => absurd h2 (by omega)
  | n + 1, j, h1, h2 => by
    rw [Sets_anyCanBe_h2_s, Sets_anyCanBe_b2]
    by_cases q : j = 12
    · subst q; rw [if_pos (by decide)]
    · rw [if_neg (fun p => q (by have := (zleR (k := 12) (by omega) (by omega)).mp p; omega)), cb0 b h, zbs, if_neg i01, nI_1]
      exact ac_loop s b h n (j + 1) (by omega) (by omega)
theorem ac0 (s b : zSt) (h : bI b) : Sets_anyCanBe 200 s b = some 1 := ac_loop s b h 200 0 (by omega) (by omega)
abbrev sJ (j : Nat) (s : zSt) : Prop := zI s 7 = 0 ∧ (zI s 0 = if j = 0 then 0 else 1) ∧ (zI s 1 = if j = 0 then -1 else 0) ∧ zI s 2 = -1 ∧ zI s 3 = nI j ∧ (zI s 4 = if j = 0 then -1 else 0) ∧ (zI s 5 = if j = 0 then -1 else nI (j - 1)) ∧ (zA s 13 0 = if j = 0 then 0 else 1)
theorem sJ.e7 {j : Nat} {s : zSt} (h : sJ j s) : zI s 7 = 0 := h.1
theorem sJ.e0 {j : Nat} {s : zSt} (h : sJ j s) : zI s 0 = if j = 0 then 0 else 1 := h.2.1
theorem sJ.e1 {j : Nat} {s : zSt} (h : sJ j s) : zI s 1 = if j = 0 then -1 else 0 := h.2.2.1
theorem sJ.e2 {j : Nat} {s : zSt} (h : sJ j s) : zI s 2 = -1 := h.2.2.2.1
theorem sJ.e3 {j : Nat} {s : zSt} (h : sJ j s) : zI s 3 = nI j := h.2.2.2.2.1
theorem sJ.e4 {j : Nat} {s : zSt} (h : sJ j s) : zI s 4 = if j = 0 then -1 else 0 := h.2.2.2.2.2.1
theorem sJ.e5 {j : Nat} {s : zSt} (h : sJ j s) : zI s 5 = if j = 0 then -1 else nI (j - 1) := h.2.2.2.2.2.2.1
theorem sJ.a13 {j : Nat} {s : zSt} (h : sJ j s) : zA s 13 0 = if j = 0 then 0 else 1 := h.2.2.2.2.2.2.2
theorem wg0 (s l b : zSt) (j : Nat) (p w : Int32) (h : sJ j s) : zok (Sets_weigh 200 s l b p w) (fun z => (∀ k, zI z k = zI s k)) := by
  rw [Sets_weigh, Sets_weigh_b0]
  refine zok_bind (af 200 48 _ _ (by omega) (by omega)) (fun g _ => ?_)
  rw [Sets_weigh_h11_s, Sets_weigh_b11, if_pos (by rw [zI_sA, h.e7]; decide)]
  exact zok_some (fun k => rfl)
abbrev sK (j : Nat) (s : zSt) : Prop := zI s 7 = 0 ∧ zI s 0 = 1 ∧ zI s 1 = 0 ∧ zI s 2 = -1 ∧ zI s 3 = nI j ∧ (zI s 4 = if j = 0 then -1 else 0) ∧ (zI s 5 = if j = 0 then -1 else nI (j - 1)) ∧ zI s 6 = 1 ∧ zA s 13 0 = 1
theorem sK.e7 {j : Nat} {s : zSt} (h : sK j s) : zI s 7 = 0 := h.1
theorem sK.e0 {j : Nat} {s : zSt} (h : sK j s) : zI s 0 = 1 := h.2.1
theorem sK.e1 {j : Nat} {s : zSt} (h : sK j s) : zI s 1 = 0 := h.2.2.1
theorem sK.e2 {j : Nat} {s : zSt} (h : sK j s) : zI s 2 = -1 := h.2.2.2.1
theorem sK.e3 {j : Nat} {s : zSt} (h : sK j s) : zI s 3 = nI j := h.2.2.2.2.1
theorem sK.e4 {j : Nat} {s : zSt} (h : sK j s) : zI s 4 = if j = 0 then -1 else 0 := h.2.2.2.2.2.1
theorem sK.e5 {j : Nat} {s : zSt} (h : sK j s) : zI s 5 = if j = 0 then -1 else nI (j - 1) := h.2.2.2.2.2.2.1
theorem sK.e6 {j : Nat} {s : zSt} (h : sK j s) : zI s 6 = 1 := h.2.2.2.2.2.2.2.1
theorem sK.a13 {j : Nat} {s : zSt} (h : sK j s) : zA s 13 0 = 1 := h.2.2.2.2.2.2.2.2
theorem ch0 (s b : zSt) (j : Nat) (h : sJ j s) (h6 : zI s 6 = 0) : zok (Sets_choose 200 14 s b 0 0) (sK j) := by
  rw [Sets_choose_s, Sets_choose_b0, if_pos h6, Sets_choose_b17, if_neg (by rw [h.e7]; decide), Sets_keep, Sets_keep_b0]
  have q : vp_in ((0 : Int32) / 32) 64 := by unfold vp_in; decide
  have q0 : Int32.toNatClampNeg ((0 : Int32) / 32) = 0 := by decide
  have q1 : (1 : Int32) <<< (((0 : Int32) - 0 / 32 * 32) &&& 31) = 1 := by decide
  simp only [zck_in q, q0, q1]
  by_cases hj : j = 0
  · subst hj
    have a : zA s 13 0 = 0 := h.a13
    rw [if_pos (by rw [a]; decide)]
    simp only [zbs]
    refine zok_some ⟨h.e7, ?_, ?_, ?_, h.e3, h.e4, h.e5, rfl, ?_⟩
    · show zI s 0 + 1 = 1
      rw [h.e0]; decide
    · show zI s 1 &&& 0 = 0
      rw [h.e1]; decide
    · show zI s 2 &&& (0 ^^^ (-1)) = -1
      rw [h.e2]; decide
    · show zA s 13 0 ||| 1 = 1
      rw [a]; decide
  · have a : zA s 13 0 = 1 := by rw [h.a13, if_neg hj]
    rw [if_neg (by rw [a]; decide)]
    simp only [zbs]
    exact zok_some ⟨h.e7, by show zI s 0 = 1; rw [h.e0, if_neg hj], by show zI s 1 = 0; rw [h.e1, if_neg hj], h.e2, h.e3, h.e4, h.e5, rfl, a⟩
theorem st45 (l b : zSt) (w : Int32) (kh : zSt → Int32 → Option zSt) (P : zSt → Prop) (s : zSt) (j : Nat) (hj : j < 100) (h : sK j s) (hk : ∀ t, sJ (j + 1) t → zok (kh t (nI (j + 1))) P) : zok (Sets_seek_b45 200 kh s l b w (nI j)) P := by
  rw [Sets_seek_b45, if_neg (by rw [h.e6]; decide)]
  by_cases q : j = 0
  · subst q
    rw [if_pos (show zI s 4 = -1 from h.e4), Sets_seek_b80, Sets_seek_b89, nI_1]
    exact hk _ ⟨h.e7, h.e0, h.e1, h.e2, by show zI s 3 + 1 = _; rw [h.e3, nI_1], rfl, rfl, h.a13⟩
  · have a : zI s 4 = 0 := by rw [h.e4, if_neg q]
    rw [if_neg (by rw [a]; decide), Sets_seek_b80, Sets_seek_b89, nI_1]
    exact hk _ ⟨h.e7, h.e0, h.e1, h.e2, by show zI s 3 + 1 = _; rw [h.e3, nI_1], by show zI s 4 = _; rw [a]; rfl, rfl, h.a13⟩
def sF (z : zSt) : Prop := zI z 0 = 1 ∧ zI z 1 = 0 ∧ zI z 2 = 0 ∧ zI z 3 = 100 ∧ zI z 4 = 0 ∧ zI z 5 = 99
theorem sp0 (s : zSt) (v : Int32) (h : zI s 7 = 0) : Sets_spread 200 s v = some 0 := by
  rw [Sets_spread, Sets_spread_b0, Sets_spread_h4_s, Sets_spread_b4, if_pos (by rw [h]; decide)]
theorem sk_loop (b : zSt) (hb : bI b) (w : Int32) : ∀ (n j : Nat) (s : zSt), j ≤ 100 → 100 < n + j → sJ j s → zok (Sets_seek_h9 200 zz b w n s (nI j)) sF
  | 0, j, s, h1, h2, h => absurd h2 (by omega)
  | n + 1, j, s, h1, h2, h => by
    rw [Sets_seek_h9_s, Sets_seek_b9]
    by_cases q : j = 100
    · subst q
      have a : zI s 0 = 1 := h.e0
      rw [if_pos (by decide), if_neg (by rw [a]; decide), sp0 s _ h.e7, zbs, Sets_seek_b115, if_neg (by rw [a]; decide), sp0 _ _ (show zI (zpI s 1 0) 7 = 0 from h.e7), zbs, Sets_seek_b138]
      refine zok_some ⟨?_, rfl, rfl, h.e3, h.e4, h.e5⟩
      show zI s 0 <<< ((zI zz 3 - zI s 7) &&& 31) = 1
      rw [a, h.e7]; decide
    · rw [if_neg (fun p => q (by have := (zltR (k := 99) (by omega) (by omega)).mp p; omega))]
      refine zok_bind (wg0 s zz b j _ w h) (fun z hz => ?_)
      have hJ : sJ j (zpI (zmg [11, 13] z s) 6 0) := ⟨(hz 7).trans h.e7, (hz 0).trans h.e0, (hz 1).trans h.e1, (hz 2).trans h.e2, (hz 3).trans h.e3, (hz 4).trans h.e4, (hz 5).trans h.e5, h.a13⟩
      rw [ac0 _ b hb, zbs, if_neg i01]
      refine zok_bind (ch0 _ b j hJ rfl) (fun y hy => ?_)
      exact st45 zz b w _ _ _ j (by omega) ⟨hy.e7, hy.e0, hy.e1, hy.e2, hy.e3, hy.e4, hy.e5, hy.e6, hy.a13⟩ (fun t ht => sk_loop b hb w n (j + 1) t (by omega) (by omega) ht)
theorem sb0 (b : zSt) : zok (Sets_begin 200 zz zz b) (fun z => sJ 0 z) := by
  rw [Sets_begin, Sets_begin_b0, Sets_begin_h7_s, Sets_begin_b7, if_pos (by decide)]
  refine zok_bind (af 200 48 _ _ (by omega) (by omega)) (fun g _ => ?_)
  refine zok_bind (af 200 64 _ _ (by omega) (by omega)) (fun g2 hg2 => ?_)
  exact zok_some ⟨rfl, rfl, rfl, rfl, rfl, rfl, rfl, hg2.1 0 (by omega)⟩
theorem seek0 (b : zSt) (hb : bI b) (w : Int32) : zok (Sets_seek 200 zz zz b w) sF := by
  rw [Sets_seek, Sets_seek_b0]
  refine zok_bind (sb0 b) (fun z h => ?_)
  exact sk_loop b hb w 200 0 _ (by omega) (by omega) ⟨h.e7, h.e0, h.e1, h.e2, h.e3, h.e4, h.e5, h.a13⟩
