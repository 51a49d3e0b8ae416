/-! methods on both sides -/
theorem n10 : ¬ (1 : Int32) = 0 := by decide
theorem hasBell_two {N : Nat} {V M : zSt} {v : Int32} (h : zI V 3 = zI M 29) : Valley_hasBell N V v = Mo_isBell N M v := by
  unfold Valley_hasBell Valley_hasBell_b0 Mo_isBell Mo_isBell_b0
  rw [h]
  rfl
theorem hasEar_two {N : Nat} {V M : zSt} {v : Int32} (h : zI V 12 = zI M 32) : Valley_hasEar N V v = Mo_isEar N M v := by
  unfold Valley_hasEar Valley_hasEar_b0 Mo_isEar Mo_isEar_b0
  rw [h]
  rfl
theorem LandR.bells {M V : zSt} (h : LandR M V) : zI V 3 = zI M 29 := by obtain ⟨_, _, _, _, ⟨_, a, _⟩, ⟨_, b, _⟩, _⟩ := h; rw [a, b]
theorem LandR.ears {M V : zSt} (h : LandR M V) : zI V 12 = zI M 32 := by obtain ⟨_, _, _, _, ⟨_, _, _, _, a⟩, ⟨_, _, _, b, _⟩, _⟩ := h; rw [a, b]
/-- an answer of isBell is 0, or the number of a bell -/
theorem bell01 {N : Nat} {M : zSt} {v : Int32} {b : Nat} (h : zI M 29 = nI b) (hb : b ≤ 11) : Mo_isBell N M v = some 0 ∨ (Mo_isBell N M v = some 1 ∧ ∃ i, i < b ∧ v = nI i) := by
  rcases u_Mo_isBell N M v with q | ⟨q, q1, q2⟩
  · exact Or.inl q
  · have e0 : (0 : Int32).toInt = 0 := by decide
    have e1 : (1 : Int32).toInt = 1 := by decide
    have e := nI_toInt (n := b) (by omega)
    rw [h, tsub (nI b) 1 (by omega) (by omega), e, e1] at q2
    obtain ⟨i, hi, l, _⟩ := i_nat (x := v) (b := (b : Int) - 1) (by omega) q2
    exact Or.inr ⟨q, i, by omega, hi⟩
theorem ear01 {N : Nat} {M : zSt} {v : Int32} {b : Nat} (h : zI M 32 = nI b) (hb : b ≤ 11) : Mo_isEar N M v = some 0 ∨ (Mo_isEar N M v = some 1 ∧ ∃ i, i < b ∧ v = nI i) := by
  rcases u_Mo_isEar N M v with q | ⟨q, q1, q2⟩
  · exact Or.inl q
  · have e0 : (0 : Int32).toInt = 0 := by decide
    have e1 : (1 : Int32).toInt = 1 := by decide
    have e := nI_toInt (n := b) (by omega)
    rw [h, tsub (nI b) 1 (by omega) (by omega), e, e1] at q2
    obtain ⟨i, hi, l, _⟩ := i_nat (x := v) (b := (b : Int) - 1) (by omega) q2
    exact Or.inr ⟨q, i, by omega, hi⟩
theorem bit01 (x : Int32) : x &&& 1 = 0 ∨ x &&& 1 = 1 := by
  have h := tandr x 1 (by decide)
  have e1 : (1 : Int32).toInt = 1 := by decide
  exact t01 (by omega) (by omega)
theorem bool01 {x : Int32} (h : x = 0 ∨ x = 1) : (if x = 1 then (some 1 : Option Int32) else some 0) = some x := by
  rcases h with h | h
  · rw [h, if_neg (by decide)]
  · rw [h, if_pos rfl]
theorem isThere_eq {N : Nat} {E : zSt} {v : Int32} : Earnest_isThere N E v = some ((zI E 0 >>> (v &&& 31)) &&& 1) := bool01 (bit01 _)
theorem isStanding_eq {N : Nat} {E : zSt} {v : Int32} : Earnest_isStanding N E v = some ((zI E 1 >>> (v &&& 31)) &&& 1) := bool01 (bit01 _)
theorem comes_two {N : Nat} {s0 V E M : zSt} {v1 v2 : Int32} (hL : LandR M V) (hn : NowR M E) (hv : v2 = 0 ∨ v2 = 1) : ∃ z y, CH_comes N s0 V E v1 v2 = some z ∧ Mo_comes N M v1 v2 = some y ∧ z.1 = y.1 ∧ NowR y.2 z.2 := by
  have hn0 := hn
  obtain ⟨⟨n0, n1, n2, n3, n4⟩, n5⟩ := hn
  unfold CH_comes CH_comes_b0 Mo_comes Mo_comes_b0
  rw [hasBell_two hL.bells]
  obtain ⟨h, b, k, e, ⟨_, l2, _⟩, _, ⟨_, b2, _⟩, _⟩ := hL
  have key : (if v2 = 0 then (Mo_comes_b25 N M v1 (((zI M 34) >>> (v1 &&& 31)) &&& 1) 0) else (Mo_comes_b25 N M v1 (((zI M 34) >>> (v1 &&& 31)) &&& 1) 1)) = Mo_comes_b25 N M v1 (((zI M 34) >>> (v1 &&& 31)) &&& 1) v2 := by
    rcases hv with q | q
    · rw [q, if_pos rfl]
    · rw [q, if_neg (by decide)]
  rcases bell01 (N := N) (v := v1) l2 b2 with q | ⟨q, _⟩ <;> rw [q] <;> simp only [zbs]
  · exact ⟨_, _, rfl, rfl, rfl, hn0⟩
  · rw [if_neg n10, if_neg n10, key, isThere_eq]
    simp only [zbs]
    unfold Mo_comes_b25
    rw [← n0]
    by_cases c : ((zI M 34 >>> (v1 &&& 31)) &&& 1) = v2
    · rw [if_pos c, if_pos c]
      exact ⟨_, _, rfl, rfl, rfl, hn0⟩
    · rw [if_neg c, if_neg c]
      refine ⟨_, _, rfl, rfl, rfl, ⟨rfl, ?_, n2, n3, n4⟩, n5⟩
      rw [zI_pI, if_pos rfl, zI_pI, if_pos rfl, n1]
theorem stand_two {N : Nat} {s0 V E M : zSt} {v1 v2 : Int32} (hL : LandR M V) (hn : NowR M E) (hv : v2 = 0 ∨ v2 = 1) : ∃ z y, CH_stand N s0 V E v1 v2 = some z ∧ Mo_stand N M v1 v2 = some y ∧ z.1 = y.1 ∧ NowR y.2 z.2 := by
  have hn0 := hn
  obtain ⟨⟨n0, n1, n2, n3, n4⟩, n5⟩ := hn
  unfold CH_stand CH_stand_b0 Mo_stand Mo_stand_b0
  rw [hasBell_two hL.bells]
  obtain ⟨h, b, k, e, ⟨_, l2, _⟩, _, ⟨_, b2, _⟩, _⟩ := hL
  have key : (if v2 = 0 then (Mo_stand_b36 N M v1 (((zI M 35) >>> (v1 &&& 31)) &&& 1) 0) else (Mo_stand_b36 N M v1 (((zI M 35) >>> (v1 &&& 31)) &&& 1) 1)) = Mo_stand_b36 N M v1 (((zI M 35) >>> (v1 &&& 31)) &&& 1) v2 := by
    rcases hv with q | q
    · rw [q, if_pos rfl]
    · rw [q, if_neg (by decide)]
  rcases bell01 (N := N) (v := v1) l2 b2 with q | ⟨q, _⟩ <;> rw [q] <;> simp only [zbs]
  · exact ⟨_, _, rfl, rfl, rfl, hn0⟩
  · rw [if_neg n10, if_neg n10, key, isThere_eq, isStanding_eq]
    simp only [zbs]
    unfold Mo_stand_b36
    rw [← n0, ← n1]
    by_cases d : ((zI M 34 >>> (v1 &&& 31)) &&& 1) = 0
    · rw [if_pos d, if_pos d]
      exact ⟨_, _, rfl, rfl, rfl, hn0⟩
    rw [if_neg d, if_neg d]
    by_cases c : ((zI M 35 >>> (v1 &&& 31)) &&& 1) = v2
    · rw [if_pos c, if_pos c]
      exact ⟨_, _, rfl, rfl, rfl, hn0⟩
    · rw [if_neg c, if_neg c]
      exact ⟨_, _, rfl, rfl, rfl, ⟨n0, rfl, n2, n3, n4⟩, n5⟩
theorem in01 (N : Nat) (a b c : Int32) : CH_within N a b c = some 0 ∨ CH_within N a b c = some 1 := by
  rcases u_CH_within N a b c with h | ⟨h, _⟩
  · exact Or.inl h
  · exact Or.inr h
theorem walk_two {N : Nat} {s0 E M : zSt} {v1 v2 : Int32} (hn : NowR M E) : ∃ z y, CH_walk N s0 E v1 v2 = some z ∧ Mo_walk N M v1 v2 = some y ∧ z.1 = y.1 ∧ NowR y.2 z.2 := by
  have hn0 := hn
  obtain ⟨⟨n0, n1, n2, n3, n4⟩, n5⟩ := hn
  unfold CH_walk CH_walk_b0 Mo_walk Mo_walk_b0
  have e1 : Mo_isPlace N v1 = CH_isPlace N v1 := rfl
  have e2 : Mo_isWind N v2 = CH_isWind N v2 := rfl
  rw [e1, e2]
  rcases u_CH_isPlace N v1 with q | ⟨q, _⟩ <;> rw [q] <;> simp only [zbs]
  · exact ⟨_, _, rfl, rfl, rfl, hn0⟩
  · rw [if_neg n10, if_neg n10]
    rcases u_CH_isWind N v2 with q | ⟨q, _⟩ <;> rw [q] <;> simp only [zbs]
    · exact ⟨_, _, rfl, rfl, rfl, hn0⟩
    · rw [if_neg n10, if_neg n10]
      exact ⟨_, _, rfl, rfl, n2.symm, ⟨n0, n1, rfl, rfl, n4⟩, n5⟩
theorem crack_two {N : Nat} {s0 V E M : zSt} {v1 v2 : Int32} (hL : LandR M V) (hn : NowR M E) : ∃ z y, CH_crack N s0 V E v1 v2 = some z ∧ Mo_crack N M v1 v2 = some y ∧ z.1 = y.1 ∧ NowR y.2 z.2 := by
  have hn0 := hn
  obtain ⟨⟨n0, n1, n2, n3, n4⟩, n5⟩ := hn
  unfold CH_crack CH_crack_b0 Mo_crack Mo_crack_b0
  rw [hasBell_two hL.bells]
  obtain ⟨h, b, k, e, ⟨_, l2, _⟩, _, ⟨_, b2, _⟩, _⟩ := hL
  have e1 : Mo_isIn N v2 0 2 = CH_within N v2 0 2 := rfl
  rw [e1]
  rcases bell01 (N := N) (v := v1) l2 b2 with q | ⟨q, i, hi, rfl⟩ <;> rw [q] <;> simp only [zbs]
  · exact ⟨_, _, rfl, rfl, rfl, hn0⟩
  · rw [if_neg n10, if_neg n10]
    rcases in01 N v2 0 2 with q | q <;> rw [q] <;> simp only [zbs]
    · exact ⟨_, _, rfl, rfl, rfl, hn0⟩
    · rw [if_neg n10, if_neg n10]
      iterate 2 rw [zck_in (vp_in_nI (n := i) (N := 11) (by omega) (by decide))]
      iterate 2 rw [zck_in (vp_in_nI (n := i) (N := 11) (by omega) (by decide))]
      rw [nI_clamp (by omega)]
      refine ⟨_, _, rfl, rfl, (n5 i (by omega)).symm, ⟨n0, n1, n2, n3, n4⟩, fun j hj => ?_⟩
      rw [zA_sA, if_pos rfl, zA_sA, if_pos rfl, upd_at, upd_at, n5 j hj]
theorem years_two {N : Nat} {s0 E M : zSt} {v1 : Int32} (hn : NowR M E) : ∃ z y, CH_years N s0 E v1 = some z ∧ Mo_years N M v1 = some y ∧ z.1 = y.1 ∧ NowR y.2 z.2 := by
  have hn0 := hn
  obtain ⟨⟨n0, n1, n2, n3, n4⟩, n5⟩ := hn
  unfold CH_years CH_years_b0 Mo_years Mo_years_b0
  have e1 : Mo_isIn N v1 0 20 = CH_within N v1 0 20 := rfl
  rw [e1, n4]
  rcases in01 N v1 0 20 with q | q <;> rw [q] <;> simp only [zbs]
  · exact ⟨_, _, rfl, rfl, rfl, hn0⟩
  · rw [if_neg n10, if_neg n10]
    by_cases c : zI E 4 + v1 ≤ 200
    · rw [if_pos c, if_pos c]
      exact ⟨_, _, rfl, rfl, rfl, ⟨n0, n1, n2, n3, rfl⟩, n5⟩
    · rw [if_neg c, if_neg c]
      exact ⟨_, _, rfl, rfl, rfl, hn0⟩
theorem later_two {N : Nat} {s0 M : zSt} {v1 : Int32} (ht : zI s0 9 = zI M 48) : ∃ z y, CH_later N s0 v1 = some z ∧ Mo_later N M v1 = some y ∧ z.1 = y.1 ∧ zI z.2 9 = zI y.2 48 := by
  unfold CH_later CH_later_b0 Mo_later Mo_later_b0
  rw [CH_within_eq, ht]
  simp only [zbs]
  by_cases a : v1 < 0
  · rw [if_pos a, if_pos rfl, if_pos a]
    exact ⟨_, _, rfl, rfl, rfl, ht⟩
  · rw [if_neg a, if_neg a]
    by_cases b : (1000 : Int32) < v1
    · rw [if_pos b, if_pos rfl, if_pos b]
      exact ⟨_, _, rfl, rfl, rfl, ht⟩
    · rw [if_neg b, if_neg (by decide), if_neg b]
      by_cases c : zI M 48 + v1 ≤ 100000
      · rw [if_pos c, if_pos c]
        exact ⟨_, _, rfl, rfl, rfl, rfl⟩
      · rw [if_neg c, if_neg c]
        exact ⟨_, _, rfl, rfl, rfl, ht⟩
theorem fault_two {N : Nat} {s0 s2 M : zSt} {v1 : Int32} (h : FltR s2 M) : CH_fault N s0 s2 v1 = Mo_fault N M v1 := by
  unfold CH_fault CH_fault_b0 Mo_fault Mo_fault_b0
  rw [h.1, h.2]
theorem spring_ans {N : Nat} {s0 V s7 M : zSt} {v1 v2 v3 v4 v5 : Int32} (hL : LandR M V) : ∃ z y, CH_spring N s0 V s7 v1 v2 v3 v4 v5 = some z ∧ Mo_spring N M v1 v2 v3 v4 v5 = some y ∧ z.1 = y.1 := by
  unfold CH_spring CH_spring_b0 Mo_spring Mo_spring_b0
  rw [hasEar_two hL.ears, hasEar_two hL.ears]
  obtain ⟨h, b, k, e, ⟨_, _, _, _, l5⟩, _, ⟨_, _, _, _, _, b6⟩, _⟩ := hL
  have e1 : Mo_isPlace N v2 = CH_isPlace N v2 := rfl
  have e2 : Mo_isPlace N v4 = CH_isPlace N v4 := rfl
  have e3 : Mo_isQuarter N v5 = CH_isQuarter N v5 := rfl
  rw [e1, e2, e3]
  rcases ear01 (N := N) (v := v1) l5 (by omega) with q | ⟨q, _⟩ <;> rw [q] <;> simp only [zbs]
  · exact ⟨_, _, rfl, rfl, rfl⟩
  rw [if_neg n10, if_neg n10]
  rcases ear01 (N := N) (v := v3) l5 (by omega) with q | ⟨q, _⟩ <;> rw [q] <;> simp only [zbs]
  · exact ⟨_, _, rfl, rfl, rfl⟩
  rw [if_neg n10, if_neg n10]
  by_cases c : v1 = v3
  · rw [if_pos c, if_pos c]
    exact ⟨_, _, rfl, rfl, rfl⟩
  rw [if_neg c, if_neg c]
  rcases u_CH_isPlace N v2 with q | ⟨q, _⟩ <;> rw [q] <;> simp only [zbs]
  · exact ⟨_, _, rfl, rfl, rfl⟩
  rw [if_neg n10, if_neg n10]
  rcases u_CH_isPlace N v4 with q | ⟨q, _⟩ <;> rw [q] <;> simp only [zbs]
  · exact ⟨_, _, rfl, rfl, rfl⟩
  rw [if_neg n10, if_neg n10]
  rcases u_CH_isQuarter N v5 with q | ⟨q, _⟩ <;> rw [q] <;> simp only [zbs]
  · exact ⟨_, _, rfl, rfl, rfl⟩
  rw [if_neg n10, if_neg n10]
  exact ⟨_, _, rfl, rfl, rfl⟩
/-! boxes -/
def nwB (M B : zSt) (j : Nat) : Prop := (zA M 63 (16 * j) = zI B 0 ∧ zA M 63 (16 * j + 1) = zI B 1 ∧ zA M 63 (16 * j + 2) = zI B 2 ∧ zA M 63 (16 * j + 3) = zI B 3 ∧ zA M 63 (16 * j + 4) = zI B 4) ∧ ∀ i, i < 11 → zA M 63 (16 * j + 5 + i) = zA B 5 i
def bx (s0 M B : zSt) (j : Nat) : Prop := (((zI s0 7 >>> (nI j &&& 31)) &&& 1) = 0 ↔ zA M 62 j = 0) ∧ (¬ zA M 62 j = 0 → nwB M B j)
def BoxR (s0 M B0 B1 B2 : zSt) : Prop := (∃ K, K < 8 ∧ zI s0 7 = nI K) ∧ bx s0 M B0 0 ∧ bx s0 M B1 1 ∧ bx s0 M B2 2
theorem mul16 : ∀ j, j < 3 → (16 : Int32) * nI j = nI (16 * j) := by decide
theorem box01 {N : Nat} {v : Int32} : (CH_within N v 0 2 = some 0 ∧ Mo_isBox N v = some 0) ∨ (CH_within N v 0 2 = some 1 ∧ Mo_isBox N v = some 1 ∧ ∃ j, j < 3 ∧ v = nI j) := by
  rw [CH_within_eq]
  unfold Mo_isBox Mo_isBox_b0
  rcases zcases v with hv | ⟨m, hm, rfl⟩
  · rw [if_pos hv, if_pos hv]; exact Or.inl ⟨rfl, rfl⟩
  · rw [if_neg (nI_pos hm), if_neg (nI_pos hm)]
    by_cases q : m < 3
    · rw [if_neg (fun r => absurd ((zltR (k := 2) hm (by decide)).mp r) (by omega)), if_neg (fun r => absurd ((zleR (k := 3) hm (by decide)).mp r) (by omega))]
      exact Or.inr ⟨rfl, rfl, m, q, rfl⟩
    · rw [if_pos ((zltR (k := 2) hm (by decide)).mpr (by omega)), if_pos ((zleR (k := 3) hm (by decide)).mpr (by omega))]
      exact Or.inl ⟨rfl, rfl⟩
theorem copy_eq {N : Nat} {A B : zSt} : ∃ z, Earnest_copy N A B = some z ∧ zI z 0 = zI B 0 ∧ zI z 1 = zI B 1 ∧ zI z 2 = zI B 2 ∧ zI z 3 = zI B 3 ∧ zI z 4 = zI B 4 ∧ ∀ i, i < 11 → zA z 5 i = zA B 5 i := by
  unfold Earnest_copy Earnest_copy_b0 zcp
  rw [if_neg (by decide)]
  refine ⟨_, rfl, rfl, rfl, rfl, rfl, rfl, fun i hi => ?_⟩
  rw [zA_sA, if_pos rfl]
  unfold va_cpy
  rw [show Int32.toNatClampNeg 0 = 0 from rfl, show Int32.toNatClampNeg 11 = 11 from rfl, if_pos ⟨by omega, by omega⟩]
  show zA B 5 (0 + (i - 0)) = _
  rw [show 0 + (i - 0) = i by omega]
theorem image_loop {N j : Nat} (hj : j < 3) : ∀ (f i : Nat) (s : zSt), i ≤ 11 → 11 - i < f → zok (Mo_image_h91 N (nI j) f s (nI i)) (fun y => y.1 = zI s 38 ∧ zI y.2 = zI s ∧ (∀ k, ¬ k = 63 → zA y.2 k = zA s k) ∧ ∀ k, zA y.2 63 k = if 16 * j + 5 + i ≤ k ∧ k < 16 * j + 16 then zA s 33 (k - (16 * j + 5)) else zA s 63 k) := by
  intro f
  induction f with
  | zero => intro i s _ h; exact absurd h (by omega)
  | succ f ih =>
    intro i s hi hf
    rw [Mo_image_h91_s]
    unfold Mo_image_b91
    by_cases e : i = 11
    · subst e
      rw [if_pos (by decide)]
      exact zok_some ⟨rfl, rfl, fun _ _ => rfl, fun k => by rw [if_neg (by omega)]⟩
    · have em : (16 : Int32) * nI j + 5 + nI i = nI (16 * j + 5 + i) := by rw [mul16 j hj, show (nI (16 * j) + 5 : Int32) = nI (16 * j + 5) from nI_add _ 5, nI_add]
      rw [if_neg (fun q => absurd ((zleR (k := 11) (by omega) (by decide)).mp q) (by omega)), zck_in (vp_in_nI (by omega) (by decide)), em, zck_in (vp_in_nI (by omega) (by decide)), nI_clamp (by omega), nI_clamp (by omega), nI_1]
      refine zok_mono (ih (i + 1) _ (by omega) (by omega)) (fun y hy => ?_)
      obtain ⟨y1, y2, y3, y4⟩ := hy
      refine ⟨y1, y2, fun k hk => ?_, fun k => ?_⟩
      · rw [y3 k hk, zA_sA, if_neg hk]
      · have r33 : zA (zsA s 63 (upd (zA s 63) (16 * j + 5 + i) (zA s 33 i))) 33 = zA s 33 := by rw [zA_sA, if_neg (by decide)]
        have r63 : zA (zsA s 63 (upd (zA s 63) (16 * j + 5 + i) (zA s 33 i))) 63 = upd (zA s 63) (16 * j + 5 + i) (zA s 33 i) := by rw [zA_sA, if_pos rfl]
        rw [y4 k, r33, r63, upd_at]
        by_cases q : k = 16 * j + 5 + i
        · rw [if_neg (by omega), if_pos q, if_pos (by omega), show k - (16 * j + 5) = i by omega]
        · by_cases r : 16 * j + 5 + i ≤ k ∧ k < 16 * j + 16
          · rw [if_pos (by omega), if_pos r]
          · rw [if_neg (by omega), if_neg q, if_neg r]
theorem Mo_image_ok {N j : Nat} (hN : 1600 ≤ N) {M : zSt} (hj : j < 3) : ∃ y, Mo_image N M (nI j) = some y ∧ y.1 = zI M 38 ∧ zI y.2 = zI M ∧ (∀ k, ¬ k = 63 → ¬ k = 62 → zA y.2 k = zA M k) ∧ (∀ k, zA y.2 62 k = if k = j then 1 else zA M 62 k) ∧
    (zA y.2 63 (16 * j) = zI M 34 ∧ zA y.2 63 (16 * j + 1) = zI M 35 ∧ zA y.2 63 (16 * j + 2) = zI M 36 ∧ zA y.2 63 (16 * j + 3) = zI M 37 ∧ zA y.2 63 (16 * j + 4) = zI M 38) ∧ (∀ i, i < 11 → zA y.2 63 (16 * j + 5 + i) = zA M 33 i) ∧ ∀ k, (k < 16 * j ∨ 16 * j + 16 ≤ k) → zA y.2 63 k = zA M 63 k := by
  have e0 := mul16 j hj
  have e1 : (16 : Int32) * nI j + 1 = nI (16 * j + 1) := by rw [e0]; exact nI_add _ 1
  have e2 : (16 : Int32) * nI j + 2 = nI (16 * j + 2) := by rw [e0]; exact nI_add _ 2
  have e3 : (16 : Int32) * nI j + 3 = nI (16 * j + 3) := by rw [e0]; exact nI_add _ 3
  have e4 : (16 : Int32) * nI j + 4 = nI (16 * j + 4) := by rw [e0]; exact nI_add _ 4
  have hb : Mo_isBox N (nI j) = some 1 := by
    rcases box01 (N := N) (v := nI j) with ⟨_, q⟩ | ⟨_, q, _⟩
    · exfalso
      unfold Mo_isBox Mo_isBox_b0 at q
      rw [if_neg (nI_pos (by omega)), if_neg (fun r => absurd ((zleR (k := 3) (by omega) (by decide)).mp r) (by omega))] at q
      exact absurd q (by decide)
    · exact q
  unfold Mo_image Mo_image_b0 Mo_image_b59 Mo_image_b74 Mo_image_b89
  rw [hb]
  simp only [zbs]
  rw [if_neg n10, zck_in (vp_in_nI (by omega) (by decide)), e1, e2, e3, e4, e0, zck_in (vp_in_nI (by omega) (by decide)), zck_in (vp_in_nI (by omega) (by decide)), zck_in (vp_in_nI (by omega) (by decide)), zck_in (vp_in_nI (by omega) (by decide)), zck_in (vp_in_nI (by omega) (by decide)), nI_clamp (by omega), nI_clamp (by omega), nI_clamp (by omega), nI_clamp (by omega), nI_clamp (by omega), nI_clamp (by omega)]
  refine zok_mono (image_loop hj N 0 _ (by omega) (by omega)) (fun y hy => ?_)
  obtain ⟨y1, y2, y3, y4⟩ := hy
  simp only [zA_sA, zI_sA, upd_at, if_true] at y3 y4
  have z4 : ∀ k, zA y.2 63 k = if 16 * j + 5 ≤ k ∧ k < 16 * j + 16 then zA M 33 (k - (16 * j + 5)) else if k = 16 * j + 4 then zI M 38 else if k = 16 * j + 3 then zI M 37 else if k = 16 * j + 2 then zI M 36 else if k = 16 * j + 1 then zI M 35 else if k = 16 * j then zI M 34 else zA M 63 k := fun k => by
    have := y4 k
    simp at this
    simpa [upd_at] using this
  refine ⟨y1, y2, fun k h63 h62 => ?_, fun k => ?_, ⟨?_, ?_, ?_, ?_, ?_⟩, fun i hi => ?_, fun k hk => ?_⟩
  · have := y3 k h63
    simpa [h63, h62] using this
  · have := congrFun (y3 62 (by decide)) k
    simpa [upd_at] using this
  · rw [z4, if_neg (by omega), if_neg (by omega), if_neg (by omega), if_neg (by omega), if_neg (by omega), if_pos rfl]
  · rw [z4, if_neg (by omega), if_neg (by omega), if_neg (by omega), if_neg (by omega), if_pos rfl]
  · rw [z4, if_neg (by omega), if_neg (by omega), if_neg (by omega), if_pos rfl]
  · rw [z4, if_neg (by omega), if_neg (by omega), if_pos rfl]
  · rw [z4, if_neg (by omega), if_pos rfl]
  · rw [z4, if_pos (by omega), show 16 * j + 5 + i - (16 * j + 5) = i by omega]
  · rw [z4, if_neg (by omega), if_neg (by omega), if_neg (by omega), if_neg (by omega), if_neg (by omega), if_neg (by omega)]
