theorem hvi {L : Nat} {v3 : Int32} (hL : L ≤ 3072) (h0 : 0 ≤ v3.toInt) (h6 : v3.toInt + 6 ≤ L) (j : Nat) (hj : j < 6) : vp_in (v3 + nI j) L := by
  have e := nI_toInt (n := j) (by omega)
  have a := tadd v3 (nI j) (by omega) (by omega)
  exact vin (by omega) (by omega)
theorem L_feed {N : Nat} (hN : 50000000 ≤ N) {kh18 : zSt → zSt → zSt → zSt → zSt → zSt → zSt → zSt → zSt → zSt → zSt → zSt → zSt → zSt → zSt → zSt → Int32 → Option Unit} {L : Nat} {xs : Nat → Int32} {s0 s1 s2 s3 s4 s5 s6 s7 s8 s9 s10 s11 s12 s14 s15 s16 : zSt} {v3 : Int32} (hL : L ≤ 3072) (h0 : 0 ≤ v3.toInt) (h6 : v3.toInt + 6 ≤ L) (hk : ∀ s0 s1 s2 s3 s4 s5 s6 s7 s8 s9 s10 s11 s12 s14 s15 s16 v, INV s0 s1 s2 s3 s5 s6 s7 s8 s9 s10 s11 s12 s14 s15 s16 → v = v3 + 6 → zok (kh18 s0 s1 s2 s3 s4 s5 s6 s7 s8 s9 s10 s11 s12 s14 s15 s16 v) (fun _ => True)) (hi : INV s0 s1 s2 s3 s5 s6 s7 s8 s9 s10 s11 s12 s14 s15 s16) : zok (Law_b164 N kh18 L xs s0 s1 s2 s3 s4 s5 s6 s7 s8 s9 s10 s11 s12 s14 s15 s16 v3) (fun _ => True) := by
  unfold Law_b164
  refine zok_ck (hvi hL h0 h6 1 (by decide)) ?_
  refine zok_ck (hvi hL h0 h6 2 (by decide)) ?_
  refine zok_ck (hvi hL h0 h6 3 (by decide)) ?_
  refine zok_ck (hvi hL h0 h6 4 (by decide)) ?_
  refine zok_ck (hvi hL h0 h6 5 (by decide)) ?_
  obtain ⟨z, y, ez, ey, ha, hinv⟩ := w_feed hN (s4 := s4) (xs (Int32.toNatClampNeg (v3 + (1 : Int32)))) (xs (Int32.toNatClampNeg (v3 + (2 : Int32)))) (xs (Int32.toNatClampNeg (v3 + (3 : Int32)))) (xs (Int32.toNatClampNeg (v3 + (4 : Int32)))) (xs (Int32.toNatClampNeg (v3 + (5 : Int32)))) hi
  refine zok_be ez ?_
  refine zok_ck (hvi hL h0 h6 1 (by decide)) ?_
  refine zok_ck (hvi hL h0 h6 2 (by decide)) ?_
  refine zok_ck (hvi hL h0 h6 3 (by decide)) ?_
  refine zok_ck (hvi hL h0 h6 4 (by decide)) ?_
  refine zok_ck (hvi hL h0 h6 5 (by decide)) ?_
  refine zok_be ey ?_
  unfold Law_b1173
  exact hk _ _ _ _ _ _ _ _ _ _ _ _ _ _ _ _ _ hinv rfl
theorem L_end {N : Nat} (hN : 50000000 ≤ N) {kh18 : zSt → zSt → zSt → zSt → zSt → zSt → zSt → zSt → zSt → zSt → zSt → zSt → zSt → zSt → zSt → zSt → Int32 → Option Unit} {L : Nat} {xs : Nat → Int32} {s0 s1 s2 s3 s4 s5 s6 s7 s8 s9 s10 s11 s12 s14 s15 s16 : zSt} {v3 : Int32} (hL : L ≤ 3072) (h0 : 0 ≤ v3.toInt) (h6 : v3.toInt + 6 ≤ L) (hk : ∀ s0 s1 s2 s3 s4 s5 s6 s7 s8 s9 s10 s11 s12 s14 s15 s16 v, INV s0 s1 s2 s3 s5 s6 s7 s8 s9 s10 s11 s12 s14 s15 s16 → v = v3 + 6 → zok (kh18 s0 s1 s2 s3 s4 s5 s6 s7 s8 s9 s10 s11 s12 s14 s15 s16 v) (fun _ => True)) (hi : INV s0 s1 s2 s3 s5 s6 s7 s8 s9 s10 s11 s12 s14 s15 s16) : zok (Law_b227 N kh18 L xs s0 s1 s2 s3 s4 s5 s6 s7 s8 s9 s10 s11 s12 s14 s15 s16 v3) (fun _ => True) := by
  unfold Law_b227
  refine zok_ck (hvi hL h0 h6 1 (by decide)) ?_
  obtain ⟨z, y, ez, ey, ha, hinv⟩ := w_end hN (s4 := s4) (xs (Int32.toNatClampNeg (v3 + (1 : Int32)))) hi
  refine zok_be ez ?_
  refine zok_ck (hvi hL h0 h6 1 (by decide)) ?_
  refine zok_be ey ?_
  unfold Law_b1173
  exact hk _ _ _ _ _ _ _ _ _ _ _ _ _ _ _ _ _ hinv rfl
theorem L_valley {N : Nat} (hN : 50000000 ≤ N) {kh18 : zSt → zSt → zSt → zSt → zSt → zSt → zSt → zSt → zSt → zSt → zSt → zSt → zSt → zSt → zSt → zSt → Int32 → Option Unit} {L : Nat} {xs : Nat → Int32} {s0 s1 s2 s3 s4 s5 s6 s7 s8 s9 s10 s11 s12 s14 s15 s16 : zSt} {v3 : Int32} (hL : L ≤ 3072) (h0 : 0 ≤ v3.toInt) (h6 : v3.toInt + 6 ≤ L) (hk : ∀ s0 s1 s2 s3 s4 s5 s6 s7 s8 s9 s10 s11 s12 s14 s15 s16 v, INV s0 s1 s2 s3 s5 s6 s7 s8 s9 s10 s11 s12 s14 s15 s16 → v = v3 + 6 → zok (kh18 s0 s1 s2 s3 s4 s5 s6 s7 s8 s9 s10 s11 s12 s14 s15 s16 v) (fun _ => True)) (hi : INV s0 s1 s2 s3 s5 s6 s7 s8 s9 s10 s11 s12 s14 s15 s16) : zok (Law_b250 N kh18 L xs s0 s1 s2 s3 s4 s5 s6 s7 s8 s9 s10 s11 s12 s14 s15 s16 v3) (fun _ => True) := by
  unfold Law_b250
  obtain ⟨z, y, ez, ey, ha, ⟨hf, hinv⟩ | ⟨hf, hinv⟩⟩ := w_valley hN (s4 := s4) hi
  · refine zok_be ez (zok_t hf ?_)
    unfold Law_b254
    refine zok_be ey ?_
    unfold Law_b1173
    exact hk _ _ _ _ _ _ _ _ _ _ _ _ _ _ _ _ _ hinv rfl
  · refine zok_be ez (zok_f (by rw [hf]; decide) ?_)
    unfold Law_b254
    refine zok_be ey ?_
    unfold Law_b1173
    exact hk _ _ _ _ _ _ _ _ _ _ _ _ _ _ _ _ _ hinv rfl
theorem L_fault {N : Nat} (hN : 50000000 ≤ N) {kh18 : zSt → zSt → zSt → zSt → zSt → zSt → zSt → zSt → zSt → zSt → zSt → zSt → zSt → zSt → zSt → zSt → Int32 → Option Unit} {L : Nat} {xs : Nat → Int32} {s0 s1 s2 s3 s4 s5 s6 s7 s8 s9 s10 s11 s12 s14 s15 s16 : zSt} {v3 : Int32} (hL : L ≤ 3072) (h0 : 0 ≤ v3.toInt) (h6 : v3.toInt + 6 ≤ L) (hk : ∀ s0 s1 s2 s3 s4 s5 s6 s7 s8 s9 s10 s11 s12 s14 s15 s16 v, INV s0 s1 s2 s3 s5 s6 s7 s8 s9 s10 s11 s12 s14 s15 s16 → v = v3 + 6 → zok (kh18 s0 s1 s2 s3 s4 s5 s6 s7 s8 s9 s10 s11 s12 s14 s15 s16 v) (fun _ => True)) (hi : INV s0 s1 s2 s3 s5 s6 s7 s8 s9 s10 s11 s12 s14 s15 s16) : zok (Law_b263 N kh18 L xs s0 s1 s2 s3 s4 s5 s6 s7 s8 s9 s10 s11 s12 s14 s15 s16 v3) (fun _ => True) := by
  unfold Law_b263
  refine zok_ck (hvi hL h0 h6 1 (by decide)) ?_
  obtain ⟨z, y, ez, ey, ha, hinv⟩ := w_fault hN (s4 := s4) (xs (Int32.toNatClampNeg (v3 + (1 : Int32)))) hi
  refine zok_be ez ?_
  refine zok_ck (hvi hL h0 h6 1 (by decide)) ?_
  refine zok_be ey ?_
  unfold Law_b1173
  exact hk _ _ _ _ _ _ _ _ _ _ _ _ _ _ _ _ _ hinv rfl
theorem L_bell {N : Nat} (hN : 50000000 ≤ N) {kh18 : zSt → zSt → zSt → zSt → zSt → zSt → zSt → zSt → zSt → zSt → zSt → zSt → zSt → zSt → zSt → zSt → Int32 → Option Unit} {L : Nat} {xs : Nat → Int32} {s0 s1 s2 s3 s4 s5 s6 s7 s8 s9 s10 s11 s12 s14 s15 s16 : zSt} {v3 : Int32} (hL : L ≤ 3072) (h0 : 0 ≤ v3.toInt) (h6 : v3.toInt + 6 ≤ L) (hk : ∀ s0 s1 s2 s3 s4 s5 s6 s7 s8 s9 s10 s11 s12 s14 s15 s16 v, INV s0 s1 s2 s3 s5 s6 s7 s8 s9 s10 s11 s12 s14 s15 s16 → v = v3 + 6 → zok (kh18 s0 s1 s2 s3 s4 s5 s6 s7 s8 s9 s10 s11 s12 s14 s15 s16 v) (fun _ => True)) (hi : INV s0 s1 s2 s3 s5 s6 s7 s8 s9 s10 s11 s12 s14 s15 s16) : zok (Law_b286 N kh18 L xs s0 s1 s2 s3 s4 s5 s6 s7 s8 s9 s10 s11 s12 s14 s15 s16 v3) (fun _ => True) := by
  unfold Law_b286
  refine zok_ck (hvi hL h0 h6 1 (by decide)) ?_
  refine zok_ck (hvi hL h0 h6 2 (by decide)) ?_
  obtain ⟨z, y, ez, ey, ha, hinv⟩ := w_bell hN (s4 := s4) (xs (Int32.toNatClampNeg (v3 + (1 : Int32)))) (xs (Int32.toNatClampNeg (v3 + (2 : Int32)))) hi
  refine zok_be ez ?_
  refine zok_ck (hvi hL h0 h6 1 (by decide)) ?_
  refine zok_ck (hvi hL h0 h6 2 (by decide)) ?_
  refine zok_be ey ?_
  unfold Law_b1173
  exact hk _ _ _ _ _ _ _ _ _ _ _ _ _ _ _ _ _ hinv rfl
theorem L_hear {N : Nat} (hN : 50000000 ≤ N) {kh18 : zSt → zSt → zSt → zSt → zSt → zSt → zSt → zSt → zSt → zSt → zSt → zSt → zSt → zSt → zSt → zSt → Int32 → Option Unit} {L : Nat} {xs : Nat → Int32} {s0 s1 s2 s3 s4 s5 s6 s7 s8 s9 s10 s11 s12 s14 s15 s16 : zSt} {v3 : Int32} (hL : L ≤ 3072) (h0 : 0 ≤ v3.toInt) (h6 : v3.toInt + 6 ≤ L) (hk : ∀ s0 s1 s2 s3 s4 s5 s6 s7 s8 s9 s10 s11 s12 s14 s15 s16 v, INV s0 s1 s2 s3 s5 s6 s7 s8 s9 s10 s11 s12 s14 s15 s16 → v = v3 + 6 → zok (kh18 s0 s1 s2 s3 s4 s5 s6 s7 s8 s9 s10 s11 s12 s14 s15 s16 v) (fun _ => True)) (hi : INV s0 s1 s2 s3 s5 s6 s7 s8 s9 s10 s11 s12 s14 s15 s16) : zok (Law_b319 N kh18 L xs s0 s1 s2 s3 s4 s5 s6 s7 s8 s9 s10 s11 s12 s14 s15 s16 v3) (fun _ => True) := by
  unfold Law_b319
  refine zok_ck (hvi hL h0 h6 1 (by decide)) ?_
  refine zok_ck (hvi hL h0 h6 2 (by decide)) ?_
  obtain ⟨z, y, ez, ey, ha, hinv⟩ := w_hear hN (s4 := s4) (xs (Int32.toNatClampNeg (v3 + (1 : Int32)))) (xs (Int32.toNatClampNeg (v3 + (2 : Int32)))) hi
  refine zok_be ez ?_
  refine zok_ck (hvi hL h0 h6 1 (by decide)) ?_
  refine zok_ck (hvi hL h0 h6 2 (by decide)) ?_
  refine zok_be ey ?_
  unfold Law_b1173
  exact hk _ _ _ _ _ _ _ _ _ _ _ _ _ _ _ _ _ hinv rfl
theorem L_chord {N : Nat} (hN : 50000000 ≤ N) {kh18 : zSt → zSt → zSt → zSt → zSt → zSt → zSt → zSt → zSt → zSt → zSt → zSt → zSt → zSt → zSt → zSt → Int32 → Option Unit} {L : Nat} {xs : Nat → Int32} {s0 s1 s2 s3 s4 s5 s6 s7 s8 s9 s10 s11 s12 s14 s15 s16 : zSt} {v3 : Int32} (hL : L ≤ 3072) (h0 : 0 ≤ v3.toInt) (h6 : v3.toInt + 6 ≤ L) (hk : ∀ s0 s1 s2 s3 s4 s5 s6 s7 s8 s9 s10 s11 s12 s14 s15 s16 v, INV s0 s1 s2 s3 s5 s6 s7 s8 s9 s10 s11 s12 s14 s15 s16 → v = v3 + 6 → zok (kh18 s0 s1 s2 s3 s4 s5 s6 s7 s8 s9 s10 s11 s12 s14 s15 s16 v) (fun _ => True)) (hi : INV s0 s1 s2 s3 s5 s6 s7 s8 s9 s10 s11 s12 s14 s15 s16) : zok (Law_b352 N kh18 L xs s0 s1 s2 s3 s4 s5 s6 s7 s8 s9 s10 s11 s12 s14 s15 s16 v3) (fun _ => True) := by
  unfold Law_b352
  refine zok_ck (hvi hL h0 h6 1 (by decide)) ?_
  obtain ⟨z, y, ez, ey, ha, hinv⟩ := w_chord hN (s4 := s4) (xs (Int32.toNatClampNeg (v3 + (1 : Int32)))) hi
  refine zok_be ez ?_
  refine zok_ck (hvi hL h0 h6 1 (by decide)) ?_
  refine zok_be ey ?_
  unfold Law_b1173
  exact hk _ _ _ _ _ _ _ _ _ _ _ _ _ _ _ _ _ hinv rfl
theorem L_comes {N : Nat} (hN : 50000000 ≤ N) {kh18 : zSt → zSt → zSt → zSt → zSt → zSt → zSt → zSt → zSt → zSt → zSt → zSt → zSt → zSt → zSt → zSt → Int32 → Option Unit} {L : Nat} {xs : Nat → Int32} {s0 s1 s2 s3 s4 s5 s6 s7 s8 s9 s10 s11 s12 s14 s15 s16 : zSt} {v3 : Int32} (hL : L ≤ 3072) (h0 : 0 ≤ v3.toInt) (h6 : v3.toInt + 6 ≤ L) (hk : ∀ s0 s1 s2 s3 s4 s5 s6 s7 s8 s9 s10 s11 s12 s14 s15 s16 v, INV s0 s1 s2 s3 s5 s6 s7 s8 s9 s10 s11 s12 s14 s15 s16 → v = v3 + 6 → zok (kh18 s0 s1 s2 s3 s4 s5 s6 s7 s8 s9 s10 s11 s12 s14 s15 s16 v) (fun _ => True)) (hi : INV s0 s1 s2 s3 s5 s6 s7 s8 s9 s10 s11 s12 s14 s15 s16) : zok (Law_b375 N kh18 L xs s0 s1 s2 s3 s4 s5 s6 s7 s8 s9 s10 s11 s12 s14 s15 s16 v3) (fun _ => True) := by
  unfold Law_b375
  refine zok_ck (hvi hL h0 h6 1 (by decide)) ?_
  refine zok_ck (hvi hL h0 h6 2 (by decide)) ?_
  by_cases c : xs (Int32.toNatClampNeg (v3 + 2)) = 0
  · refine zok_t c ?_
    unfold Law_b394
    obtain ⟨z, y, ez, ey, ha, hinv⟩ := w_comes hN (s4 := s4) (xs (Int32.toNatClampNeg (v3 + 1))) 0 (Or.inl rfl) hi
    refine zok_be ez ?_
    refine zok_ck (hvi hL h0 h6 1 (by decide)) ?_
    refine zok_ck (hvi hL h0 h6 2 (by decide)) ?_
    refine zok_t c ?_
    unfold Law_b417
    refine zok_be ey ?_
    unfold Law_b1173
    exact hk _ _ _ _ _ _ _ _ _ _ _ _ _ _ _ _ _ hinv rfl
  · refine zok_f c ?_
    unfold Law_b394
    obtain ⟨z, y, ez, ey, ha, hinv⟩ := w_comes hN (s4 := s4) (xs (Int32.toNatClampNeg (v3 + 1))) 1 (Or.inr rfl) hi
    refine zok_be ez ?_
    refine zok_ck (hvi hL h0 h6 1 (by decide)) ?_
    refine zok_ck (hvi hL h0 h6 2 (by decide)) ?_
    refine zok_f c ?_
    unfold Law_b417
    refine zok_be ey ?_
    unfold Law_b1173
    exact hk _ _ _ _ _ _ _ _ _ _ _ _ _ _ _ _ _ hinv rfl
theorem L_stand {N : Nat} (hN : 50000000 ≤ N) {kh18 : zSt → zSt → zSt → zSt → zSt → zSt → zSt → zSt → zSt → zSt → zSt → zSt → zSt → zSt → zSt → zSt → Int32 → Option Unit} {L : Nat} {xs : Nat → Int32} {s0 s1 s2 s3 s4 s5 s6 s7 s8 s9 s10 s11 s12 s14 s15 s16 : zSt} {v3 : Int32} (hL : L ≤ 3072) (h0 : 0 ≤ v3.toInt) (h6 : v3.toInt + 6 ≤ L) (hk : ∀ s0 s1 s2 s3 s4 s5 s6 s7 s8 s9 s10 s11 s12 s14 s15 s16 v, INV s0 s1 s2 s3 s5 s6 s7 s8 s9 s10 s11 s12 s14 s15 s16 → v = v3 + 6 → zok (kh18 s0 s1 s2 s3 s4 s5 s6 s7 s8 s9 s10 s11 s12 s14 s15 s16 v) (fun _ => True)) (hi : INV s0 s1 s2 s3 s5 s6 s7 s8 s9 s10 s11 s12 s14 s15 s16) : zok (Law_b424 N kh18 L xs s0 s1 s2 s3 s4 s5 s6 s7 s8 s9 s10 s11 s12 s14 s15 s16 v3) (fun _ => True) := by
  unfold Law_b424
  refine zok_ck (hvi hL h0 h6 1 (by decide)) ?_
  refine zok_ck (hvi hL h0 h6 2 (by decide)) ?_
  by_cases c : xs (Int32.toNatClampNeg (v3 + 2)) = 0
  · refine zok_t c ?_
    unfold Law_b443
    obtain ⟨z, y, ez, ey, ha, hinv⟩ := w_stand hN (s4 := s4) (xs (Int32.toNatClampNeg (v3 + 1))) 0 (Or.inl rfl) hi
    refine zok_be ez ?_
    refine zok_ck (hvi hL h0 h6 1 (by decide)) ?_
    refine zok_ck (hvi hL h0 h6 2 (by decide)) ?_
    refine zok_t c ?_
    unfold Law_b466
    refine zok_be ey ?_
    unfold Law_b1173
    exact hk _ _ _ _ _ _ _ _ _ _ _ _ _ _ _ _ _ hinv rfl
  · refine zok_f c ?_
    unfold Law_b443
    obtain ⟨z, y, ez, ey, ha, hinv⟩ := w_stand hN (s4 := s4) (xs (Int32.toNatClampNeg (v3 + 1))) 1 (Or.inr rfl) hi
    refine zok_be ez ?_
    refine zok_ck (hvi hL h0 h6 1 (by decide)) ?_
    refine zok_ck (hvi hL h0 h6 2 (by decide)) ?_
    refine zok_f c ?_
    unfold Law_b466
    refine zok_be ey ?_
    unfold Law_b1173
    exact hk _ _ _ _ _ _ _ _ _ _ _ _ _ _ _ _ _ hinv rfl
theorem L_walk {N : Nat} (hN : 50000000 ≤ N) {kh18 : zSt → zSt → zSt → zSt → zSt → zSt → zSt → zSt → zSt → zSt → zSt → zSt → zSt → zSt → zSt → zSt → Int32 → Option Unit} {L : Nat} {xs : Nat → Int32} {s0 s1 s2 s3 s4 s5 s6 s7 s8 s9 s10 s11 s12 s14 s15 s16 : zSt} {v3 : Int32} (hL : L ≤ 3072) (h0 : 0 ≤ v3.toInt) (h6 : v3.toInt + 6 ≤ L) (hk : ∀ s0 s1 s2 s3 s4 s5 s6 s7 s8 s9 s10 s11 s12 s14 s15 s16 v, INV s0 s1 s2 s3 s5 s6 s7 s8 s9 s10 s11 s12 s14 s15 s16 → v = v3 + 6 → zok (kh18 s0 s1 s2 s3 s4 s5 s6 s7 s8 s9 s10 s11 s12 s14 s15 s16 v) (fun _ => True)) (hi : INV s0 s1 s2 s3 s5 s6 s7 s8 s9 s10 s11 s12 s14 s15 s16) : zok (Law_b473 N kh18 L xs s0 s1 s2 s3 s4 s5 s6 s7 s8 s9 s10 s11 s12 s14 s15 s16 v3) (fun _ => True) := by
  unfold Law_b473
  refine zok_ck (hvi hL h0 h6 1 (by decide)) ?_
  refine zok_ck (hvi hL h0 h6 2 (by decide)) ?_
  obtain ⟨z, y, ez, ey, ha, hinv⟩ := w_walk hN (s4 := s4) (xs (Int32.toNatClampNeg (v3 + (1 : Int32)))) (xs (Int32.toNatClampNeg (v3 + (2 : Int32)))) hi
  refine zok_be ez ?_
  refine zok_ck (hvi hL h0 h6 1 (by decide)) ?_
  refine zok_ck (hvi hL h0 h6 2 (by decide)) ?_
  refine zok_be ey ?_
  unfold Law_b1173
  exact hk _ _ _ _ _ _ _ _ _ _ _ _ _ _ _ _ _ hinv rfl
theorem L_crack {N : Nat} (hN : 50000000 ≤ N) {kh18 : zSt → zSt → zSt → zSt → zSt → zSt → zSt → zSt → zSt → zSt → zSt → zSt → zSt → zSt → zSt → zSt → Int32 → Option Unit} {L : Nat} {xs : Nat → Int32} {s0 s1 s2 s3 s4 s5 s6 s7 s8 s9 s10 s11 s12 s14 s15 s16 : zSt} {v3 : Int32} (hL : L ≤ 3072) (h0 : 0 ≤ v3.toInt) (h6 : v3.toInt + 6 ≤ L) (hk : ∀ s0 s1 s2 s3 s4 s5 s6 s7 s8 s9 s10 s11 s12 s14 s15 s16 v, INV s0 s1 s2 s3 s5 s6 s7 s8 s9 s10 s11 s12 s14 s15 s16 → v = v3 + 6 → zok (kh18 s0 s1 s2 s3 s4 s5 s6 s7 s8 s9 s10 s11 s12 s14 s15 s16 v) (fun _ => True)) (hi : INV s0 s1 s2 s3 s5 s6 s7 s8 s9 s10 s11 s12 s14 s15 s16) : zok (Law_b506 N kh18 L xs s0 s1 s2 s3 s4 s5 s6 s7 s8 s9 s10 s11 s12 s14 s15 s16 v3) (fun _ => True) := by
  unfold Law_b506
  refine zok_ck (hvi hL h0 h6 1 (by decide)) ?_
  refine zok_ck (hvi hL h0 h6 2 (by decide)) ?_
  obtain ⟨z, y, ez, ey, ha, hinv⟩ := w_crack hN (s4 := s4) (xs (Int32.toNatClampNeg (v3 + (1 : Int32)))) (xs (Int32.toNatClampNeg (v3 + (2 : Int32)))) hi
  refine zok_be ez ?_
  refine zok_ck (hvi hL h0 h6 1 (by decide)) ?_
  refine zok_ck (hvi hL h0 h6 2 (by decide)) ?_
  refine zok_be ey ?_
  unfold Law_b1173
  exact hk _ _ _ _ _ _ _ _ _ _ _ _ _ _ _ _ _ hinv rfl
theorem L_years {N : Nat} (hN : 50000000 ≤ N) {kh18 : zSt → zSt → zSt → zSt → zSt → zSt → zSt → zSt → zSt → zSt → zSt → zSt → zSt → zSt → zSt → zSt → Int32 → Option Unit} {L : Nat} {xs : Nat → Int32} {s0 s1 s2 s3 s4 s5 s6 s7 s8 s9 s10 s11 s12 s14 s15 s16 : zSt} {v3 : Int32} (hL : L ≤ 3072) (h0 : 0 ≤ v3.toInt) (h6 : v3.toInt + 6 ≤ L) (hk : ∀ s0 s1 s2 s3 s4 s5 s6 s7 s8 s9 s10 s11 s12 s14 s15 s16 v, INV s0 s1 s2 s3 s5 s6 s7 s8 s9 s10 s11 s12 s14 s15 s16 → v = v3 + 6 → zok (kh18 s0 s1 s2 s3 s4 s5 s6 s7 s8 s9 s10 s11 s12 s14 s15 s16 v) (fun _ => True)) (hi : INV s0 s1 s2 s3 s5 s6 s7 s8 s9 s10 s11 s12 s14 s15 s16) : zok (Law_b539 N kh18 L xs s0 s1 s2 s3 s4 s5 s6 s7 s8 s9 s10 s11 s12 s14 s15 s16 v3) (fun _ => True) := by
  unfold Law_b539
  refine zok_ck (hvi hL h0 h6 1 (by decide)) ?_
  obtain ⟨z, y, ez, ey, ha, hinv⟩ := w_years hN (s4 := s4) (xs (Int32.toNatClampNeg (v3 + (1 : Int32)))) hi
  refine zok_be ez ?_
  refine zok_ck (hvi hL h0 h6 1 (by decide)) ?_
  refine zok_be ey ?_
  unfold Law_b1173
  exact hk _ _ _ _ _ _ _ _ _ _ _ _ _ _ _ _ _ hinv rfl
theorem L_sound {N : Nat} (hN : 50000000 ≤ N) {kh18 : zSt → zSt → zSt → zSt → zSt → zSt → zSt → zSt → zSt → zSt → zSt → zSt → zSt → zSt → zSt → zSt → Int32 → Option Unit} {L : Nat} {xs : Nat → Int32} {s0 s1 s2 s3 s4 s5 s6 s7 s8 s9 s10 s11 s12 s14 s15 s16 : zSt} {v3 : Int32} (hL : L ≤ 3072) (h0 : 0 ≤ v3.toInt) (h6 : v3.toInt + 6 ≤ L) (hk : ∀ s0 s1 s2 s3 s4 s5 s6 s7 s8 s9 s10 s11 s12 s14 s15 s16 v, INV s0 s1 s2 s3 s5 s6 s7 s8 s9 s10 s11 s12 s14 s15 s16 → v = v3 + 6 → zok (kh18 s0 s1 s2 s3 s4 s5 s6 s7 s8 s9 s10 s11 s12 s14 s15 s16 v) (fun _ => True)) (hi : INV s0 s1 s2 s3 s5 s6 s7 s8 s9 s10 s11 s12 s14 s15 s16) : zok (Law_b562 N kh18 L xs s0 s1 s2 s3 s4 s5 s6 s7 s8 s9 s10 s11 s12 s14 s15 s16 v3) (fun _ => True) := by
  unfold Law_b562
  refine zok_ck (hvi hL h0 h6 1 (by decide)) ?_
  refine zok_ck (hvi hL h0 h6 2 (by decide)) ?_
  refine zok_ck (hvi hL h0 h6 3 (by decide)) ?_
  refine zok_ck (hvi hL h0 h6 4 (by decide)) ?_
  refine zok_ck (hvi hL h0 h6 5 (by decide)) ?_
  obtain ⟨z, y, ez, ey, ha, hinv⟩ := w_sound hN (s4 := s4) (xs (Int32.toNatClampNeg (v3 + (1 : Int32)))) (xs (Int32.toNatClampNeg (v3 + (2 : Int32)))) (xs (Int32.toNatClampNeg (v3 + (3 : Int32)))) (xs (Int32.toNatClampNeg (v3 + (4 : Int32)))) (xs (Int32.toNatClampNeg (v3 + (5 : Int32)))) hi
  refine zok_be ez ?_
  refine zok_ck (hvi hL h0 h6 1 (by decide)) ?_
  refine zok_ck (hvi hL h0 h6 2 (by decide)) ?_
  refine zok_ck (hvi hL h0 h6 3 (by decide)) ?_
  refine zok_ck (hvi hL h0 h6 4 (by decide)) ?_
  refine zok_ck (hvi hL h0 h6 5 (by decide)) ?_
  refine zok_be ey ?_
  unfold Law_b1173
  exact hk _ _ _ _ _ _ _ _ _ _ _ _ _ _ _ _ _ hinv rfl
theorem L_evening {N : Nat} (hN : 50000000 ≤ N) {kh18 : zSt → zSt → zSt → zSt → zSt → zSt → zSt → zSt → zSt → zSt → zSt → zSt → zSt → zSt → zSt → zSt → Int32 → Option Unit} {L : Nat} {xs : Nat → Int32} {s0 s1 s2 s3 s4 s5 s6 s7 s8 s9 s10 s11 s12 s14 s15 s16 : zSt} {v3 : Int32} (hL : L ≤ 3072) (h0 : 0 ≤ v3.toInt) (h6 : v3.toInt + 6 ≤ L) (hk : ∀ s0 s1 s2 s3 s4 s5 s6 s7 s8 s9 s10 s11 s12 s14 s15 s16 v, INV s0 s1 s2 s3 s5 s6 s7 s8 s9 s10 s11 s12 s14 s15 s16 → v = v3 + 6 → zok (kh18 s0 s1 s2 s3 s4 s5 s6 s7 s8 s9 s10 s11 s12 s14 s15 s16 v) (fun _ => True)) (hi : INV s0 s1 s2 s3 s5 s6 s7 s8 s9 s10 s11 s12 s14 s15 s16) : zok (Law_b625 N kh18 L xs s0 s1 s2 s3 s4 s5 s6 s7 s8 s9 s10 s11 s12 s14 s15 s16 v3) (fun _ => True) := by
  unfold Law_b625
  refine zok_ck (hvi hL h0 h6 1 (by decide)) ?_
  refine zok_ck (hvi hL h0 h6 2 (by decide)) ?_
  obtain ⟨z, y, ez, ey, ha, hinv⟩ := w_evening hN (s4 := s4) (xs (Int32.toNatClampNeg (v3 + (1 : Int32)))) (xs (Int32.toNatClampNeg (v3 + (2 : Int32)))) hi
  refine zok_be ez ?_
  refine zok_ck (hvi hL h0 h6 1 (by decide)) ?_
  refine zok_ck (hvi hL h0 h6 2 (by decide)) ?_
  refine zok_be ey ?_
  unfold Law_b1173
  exact hk _ _ _ _ _ _ _ _ _ _ _ _ _ _ _ _ _ hinv rfl
theorem L_note {N : Nat} (hN : 50000000 ≤ N) {kh18 : zSt → zSt → zSt → zSt → zSt → zSt → zSt → zSt → zSt → zSt → zSt → zSt → zSt → zSt → zSt → zSt → Int32 → Option Unit} {L : Nat} {xs : Nat → Int32} {s0 s1 s2 s3 s4 s5 s6 s7 s8 s9 s10 s11 s12 s14 s15 s16 : zSt} {v3 : Int32} (hL : L ≤ 3072) (h0 : 0 ≤ v3.toInt) (h6 : v3.toInt + 6 ≤ L) (hk : ∀ s0 s1 s2 s3 s4 s5 s6 s7 s8 s9 s10 s11 s12 s14 s15 s16 v, INV s0 s1 s2 s3 s5 s6 s7 s8 s9 s10 s11 s12 s14 s15 s16 → v = v3 + 6 → zok (kh18 s0 s1 s2 s3 s4 s5 s6 s7 s8 s9 s10 s11 s12 s14 s15 s16 v) (fun _ => True)) (hi : INV s0 s1 s2 s3 s5 s6 s7 s8 s9 s10 s11 s12 s14 s15 s16) : zok (Law_b658 N kh18 L xs s0 s1 s2 s3 s4 s5 s6 s7 s8 s9 s10 s11 s12 s14 s15 s16 v3) (fun _ => True) := by
  unfold Law_b658
  refine zok_ck (hvi hL h0 h6 1 (by decide)) ?_
  refine zok_ck (hvi hL h0 h6 2 (by decide)) ?_
  refine zok_ck (hvi hL h0 h6 3 (by decide)) ?_
  refine zok_ck (hvi hL h0 h6 4 (by decide)) ?_
  obtain ⟨z, y, ez, ey, ha, hinv⟩ := w_note hN (s4 := s4) (xs (Int32.toNatClampNeg (v3 + (1 : Int32)))) (xs (Int32.toNatClampNeg (v3 + (2 : Int32)))) (xs (Int32.toNatClampNeg (v3 + (3 : Int32)))) (xs (Int32.toNatClampNeg (v3 + (4 : Int32)))) hi
  refine zok_be ez ?_
  refine zok_ck (hvi hL h0 h6 1 (by decide)) ?_
  refine zok_ck (hvi hL h0 h6 2 (by decide)) ?_
  refine zok_ck (hvi hL h0 h6 3 (by decide)) ?_
  refine zok_ck (hvi hL h0 h6 4 (by decide)) ?_
  refine zok_be ey ?_
  unfold Law_b1173
  exact hk _ _ _ _ _ _ _ _ _ _ _ _ _ _ _ _ _ hinv rfl
theorem L_untell {N : Nat} (hN : 50000000 ≤ N) {kh18 : zSt → zSt → zSt → zSt → zSt → zSt → zSt → zSt → zSt → zSt → zSt → zSt → zSt → zSt → zSt → zSt → Int32 → Option Unit} {L : Nat} {xs : Nat → Int32} {s0 s1 s2 s3 s4 s5 s6 s7 s8 s9 s10 s11 s12 s14 s15 s16 : zSt} {v3 : Int32} (hL : L ≤ 3072) (h0 : 0 ≤ v3.toInt) (h6 : v3.toInt + 6 ≤ L) (hk : ∀ s0 s1 s2 s3 s4 s5 s6 s7 s8 s9 s10 s11 s12 s14 s15 s16 v, INV s0 s1 s2 s3 s5 s6 s7 s8 s9 s10 s11 s12 s14 s15 s16 → v = v3 + 6 → zok (kh18 s0 s1 s2 s3 s4 s5 s6 s7 s8 s9 s10 s11 s12 s14 s15 s16 v) (fun _ => True)) (hi : INV s0 s1 s2 s3 s5 s6 s7 s8 s9 s10 s11 s12 s14 s15 s16) : zok (Law_b711 N kh18 L xs s0 s1 s2 s3 s4 s5 s6 s7 s8 s9 s10 s11 s12 s14 s15 s16 v3) (fun _ => True) := by
  unfold Law_b711
  refine zok_ck (hvi hL h0 h6 1 (by decide)) ?_
  obtain ⟨z, y, ez, ey, ha, hinv⟩ := w_untell hN (s4 := s4) (xs (Int32.toNatClampNeg (v3 + (1 : Int32)))) hi
  refine zok_be ez ?_
  refine zok_ck (hvi hL h0 h6 1 (by decide)) ?_
  refine zok_be ey ?_
  unfold Law_b1173
  exact hk _ _ _ _ _ _ _ _ _ _ _ _ _ _ _ _ _ hinv rfl
theorem L_later {N : Nat} (hN : 50000000 ≤ N) {kh18 : zSt → zSt → zSt → zSt → zSt → zSt → zSt → zSt → zSt → zSt → zSt → zSt → zSt → zSt → zSt → zSt → Int32 → Option Unit} {L : Nat} {xs : Nat → Int32} {s0 s1 s2 s3 s4 s5 s6 s7 s8 s9 s10 s11 s12 s14 s15 s16 : zSt} {v3 : Int32} (hL : L ≤ 3072) (h0 : 0 ≤ v3.toInt) (h6 : v3.toInt + 6 ≤ L) (hk : ∀ s0 s1 s2 s3 s4 s5 s6 s7 s8 s9 s10 s11 s12 s14 s15 s16 v, INV s0 s1 s2 s3 s5 s6 s7 s8 s9 s10 s11 s12 s14 s15 s16 → v = v3 + 6 → zok (kh18 s0 s1 s2 s3 s4 s5 s6 s7 s8 s9 s10 s11 s12 s14 s15 s16 v) (fun _ => True)) (hi : INV s0 s1 s2 s3 s5 s6 s7 s8 s9 s10 s11 s12 s14 s15 s16) : zok (Law_b734 N kh18 L xs s0 s1 s2 s3 s4 s5 s6 s7 s8 s9 s10 s11 s12 s14 s15 s16 v3) (fun _ => True) := by
  unfold Law_b734
  refine zok_ck (hvi hL h0 h6 1 (by decide)) ?_
  obtain ⟨z, y, ez, ey, ha, hinv⟩ := w_later hN (s4 := s4) (xs (Int32.toNatClampNeg (v3 + (1 : Int32)))) hi
  refine zok_be ez ?_
  refine zok_ck (hvi hL h0 h6 1 (by decide)) ?_
  refine zok_be ey ?_
  unfold Law_b1173
  exact hk _ _ _ _ _ _ _ _ _ _ _ _ _ _ _ _ _ hinv rfl
theorem L_sets {N : Nat} (hN : 50000000 ≤ N) {kh18 : zSt → zSt → zSt → zSt → zSt → zSt → zSt → zSt → zSt → zSt → zSt → zSt → zSt → zSt → zSt → zSt → Int32 → Option Unit} {L : Nat} {xs : Nat → Int32} {s0 s1 s2 s3 s4 s5 s6 s7 s8 s9 s10 s11 s12 s14 s15 s16 : zSt} {v3 : Int32} (hL : L ≤ 3072) (h0 : 0 ≤ v3.toInt) (h6 : v3.toInt + 6 ≤ L) (hk : ∀ s0 s1 s2 s3 s4 s5 s6 s7 s8 s9 s10 s11 s12 s14 s15 s16 v, INV s0 s1 s2 s3 s5 s6 s7 s8 s9 s10 s11 s12 s14 s15 s16 → v = v3 + 6 → zok (kh18 s0 s1 s2 s3 s4 s5 s6 s7 s8 s9 s10 s11 s12 s14 s15 s16 v) (fun _ => True)) (hi : INV s0 s1 s2 s3 s5 s6 s7 s8 s9 s10 s11 s12 s14 s15 s16) : zok (Law_b757 N kh18 L xs s0 s1 s2 s3 s4 s5 s6 s7 s8 s9 s10 s11 s12 s14 s15 s16 v3) (fun _ => True) := by
  unfold Law_b757
  refine zok_ck (hvi hL h0 h6 1 (by decide)) ?_
  refine zok_ck (hvi hL h0 h6 2 (by decide)) ?_
  refine zok_ck (hvi hL h0 h6 3 (by decide)) ?_
  refine zok_ck (hvi hL h0 h6 4 (by decide)) ?_
  obtain ⟨z, y, ez, ey, ha, hinv⟩ := w_sets hN (s4 := s4) (xs (Int32.toNatClampNeg (v3 + (1 : Int32)))) (xs (Int32.toNatClampNeg (v3 + (2 : Int32)))) (xs (Int32.toNatClampNeg (v3 + (3 : Int32)))) (xs (Int32.toNatClampNeg (v3 + (4 : Int32)))) hi
  refine zok_be ez ?_
  refine zok_ck (hvi hL h0 h6 1 (by decide)) ?_
  refine zok_ck (hvi hL h0 h6 2 (by decide)) ?_
  refine zok_ck (hvi hL h0 h6 3 (by decide)) ?_
  refine zok_ck (hvi hL h0 h6 4 (by decide)) ?_
  refine zok_be ey ?_
  unfold Law_b1173
  exact hk _ _ _ _ _ _ _ _ _ _ _ _ _ _ _ _ _ hinv rfl
theorem L_spring {N : Nat} (hN : 50000000 ≤ N) {kh18 : zSt → zSt → zSt → zSt → zSt → zSt → zSt → zSt → zSt → zSt → zSt → zSt → zSt → zSt → zSt → zSt → Int32 → Option Unit} {L : Nat} {xs : Nat → Int32} {s0 s1 s2 s3 s4 s5 s6 s7 s8 s9 s10 s11 s12 s14 s15 s16 : zSt} {v3 : Int32} (hL : L ≤ 3072) (h0 : 0 ≤ v3.toInt) (h6 : v3.toInt + 6 ≤ L) (hk : ∀ s0 s1 s2 s3 s4 s5 s6 s7 s8 s9 s10 s11 s12 s14 s15 s16 v, INV s0 s1 s2 s3 s5 s6 s7 s8 s9 s10 s11 s12 s14 s15 s16 → v = v3 + 6 → zok (kh18 s0 s1 s2 s3 s4 s5 s6 s7 s8 s9 s10 s11 s12 s14 s15 s16 v) (fun _ => True)) (hi : INV s0 s1 s2 s3 s5 s6 s7 s8 s9 s10 s11 s12 s14 s15 s16) : zok (Law_b810 N kh18 L xs s0 s1 s2 s3 s4 s5 s6 s7 s8 s9 s10 s11 s12 s14 s15 s16 v3) (fun _ => True) := by
  unfold Law_b810
  refine zok_ck (hvi hL h0 h6 1 (by decide)) ?_
  refine zok_ck (hvi hL h0 h6 2 (by decide)) ?_
  refine zok_ck (hvi hL h0 h6 3 (by decide)) ?_
  refine zok_ck (hvi hL h0 h6 4 (by decide)) ?_
  refine zok_ck (hvi hL h0 h6 5 (by decide)) ?_
  obtain ⟨z, y, ez, ey, ha, hinv⟩ := w_spring hN (s4 := s4) (xs (Int32.toNatClampNeg (v3 + (1 : Int32)))) (xs (Int32.toNatClampNeg (v3 + (2 : Int32)))) (xs (Int32.toNatClampNeg (v3 + (3 : Int32)))) (xs (Int32.toNatClampNeg (v3 + (4 : Int32)))) (xs (Int32.toNatClampNeg (v3 + (5 : Int32)))) hi
  refine zok_be ez ?_
  refine zok_ck (hvi hL h0 h6 1 (by decide)) ?_
  refine zok_ck (hvi hL h0 h6 2 (by decide)) ?_
  refine zok_ck (hvi hL h0 h6 3 (by decide)) ?_
  refine zok_ck (hvi hL h0 h6 4 (by decide)) ?_
  refine zok_ck (hvi hL h0 h6 5 (by decide)) ?_
  refine zok_be ey ?_
  unfold Law_b1173
  exact hk _ _ _ _ _ _ _ _ _ _ _ _ _ _ _ _ _ hinv rfl
theorem L_parted {N : Nat} (hN : 50000000 ≤ N) {kh18 : zSt → zSt → zSt → zSt → zSt → zSt → zSt → zSt → zSt → zSt → zSt → zSt → zSt → zSt → zSt → zSt → Int32 → Option Unit} {L : Nat} {xs : Nat → Int32} {s0 s1 s2 s3 s4 s5 s6 s7 s8 s9 s10 s11 s12 s14 s15 s16 : zSt} {v3 : Int32} (hL : L ≤ 3072) (h0 : 0 ≤ v3.toInt) (h6 : v3.toInt + 6 ≤ L) (hk : ∀ s0 s1 s2 s3 s4 s5 s6 s7 s8 s9 s10 s11 s12 s14 s15 s16 v, INV s0 s1 s2 s3 s5 s6 s7 s8 s9 s10 s11 s12 s14 s15 s16 → v = v3 + 6 → zok (kh18 s0 s1 s2 s3 s4 s5 s6 s7 s8 s9 s10 s11 s12 s14 s15 s16 v) (fun _ => True)) (hi : INV s0 s1 s2 s3 s5 s6 s7 s8 s9 s10 s11 s12 s14 s15 s16) : zok (Law_b873 N kh18 L xs s0 s1 s2 s3 s4 s5 s6 s7 s8 s9 s10 s11 s12 s14 s15 s16 v3) (fun _ => True) := by
  unfold Law_b873
  refine zok_ck (hvi hL h0 h6 1 (by decide)) ?_
  refine zok_ck (hvi hL h0 h6 2 (by decide)) ?_
  refine zok_ck (hvi hL h0 h6 3 (by decide)) ?_
  obtain ⟨z, y, ez, ey, ha, hinv⟩ := w_parted hN (s4 := s4) (xs (Int32.toNatClampNeg (v3 + (1 : Int32)))) (xs (Int32.toNatClampNeg (v3 + (2 : Int32)))) (xs (Int32.toNatClampNeg (v3 + (3 : Int32)))) hi
  refine zok_be ez ?_
  refine zok_ck (hvi hL h0 h6 1 (by decide)) ?_
  refine zok_ck (hvi hL h0 h6 2 (by decide)) ?_
  refine zok_ck (hvi hL h0 h6 3 (by decide)) ?_
  refine zok_be ey ?_
  unfold Law_b1173
  exact hk _ _ _ _ _ _ _ _ _ _ _ _ _ _ _ _ _ hinv rfl
theorem L_came {N : Nat} (hN : 50000000 ≤ N) {kh18 : zSt → zSt → zSt → zSt → zSt → zSt → zSt → zSt → zSt → zSt → zSt → zSt → zSt → zSt → zSt → zSt → Int32 → Option Unit} {L : Nat} {xs : Nat → Int32} {s0 s1 s2 s3 s4 s5 s6 s7 s8 s9 s10 s11 s12 s14 s15 s16 : zSt} {v3 : Int32} (hL : L ≤ 3072) (h0 : 0 ≤ v3.toInt) (h6 : v3.toInt + 6 ≤ L) (hk : ∀ s0 s1 s2 s3 s4 s5 s6 s7 s8 s9 s10 s11 s12 s14 s15 s16 v, INV s0 s1 s2 s3 s5 s6 s7 s8 s9 s10 s11 s12 s14 s15 s16 → v = v3 + 6 → zok (kh18 s0 s1 s2 s3 s4 s5 s6 s7 s8 s9 s10 s11 s12 s14 s15 s16 v) (fun _ => True)) (hi : INV s0 s1 s2 s3 s5 s6 s7 s8 s9 s10 s11 s12 s14 s15 s16) : zok (Law_b916 N kh18 L xs s0 s1 s2 s3 s4 s5 s6 s7 s8 s9 s10 s11 s12 s14 s15 s16 v3) (fun _ => True) := by
  unfold Law_b916
  refine zok_ck (hvi hL h0 h6 1 (by decide)) ?_
  refine zok_ck (hvi hL h0 h6 2 (by decide)) ?_
  refine zok_ck (hvi hL h0 h6 3 (by decide)) ?_
  refine zok_ck (hvi hL h0 h6 4 (by decide)) ?_
  refine zok_ck (hvi hL h0 h6 5 (by decide)) ?_
  obtain ⟨z, y, ez, ey, ha, hinv⟩ := w_came hN (s4 := s4) (xs (Int32.toNatClampNeg (v3 + (1 : Int32)))) (xs (Int32.toNatClampNeg (v3 + (2 : Int32)))) (xs (Int32.toNatClampNeg (v3 + (3 : Int32)))) (xs (Int32.toNatClampNeg (v3 + (4 : Int32)))) (xs (Int32.toNatClampNeg (v3 + (5 : Int32)))) hi
  refine zok_be ez ?_
  refine zok_ck (hvi hL h0 h6 1 (by decide)) ?_
  refine zok_ck (hvi hL h0 h6 2 (by decide)) ?_
  refine zok_ck (hvi hL h0 h6 3 (by decide)) ?_
  refine zok_ck (hvi hL h0 h6 4 (by decide)) ?_
  refine zok_ck (hvi hL h0 h6 5 (by decide)) ?_
  refine zok_be ey ?_
  unfold Law_b1173
  exact hk _ _ _ _ _ _ _ _ _ _ _ _ _ _ _ _ _ hinv rfl
theorem L_cracked {N : Nat} (hN : 50000000 ≤ N) {kh18 : zSt → zSt → zSt → zSt → zSt → zSt → zSt → zSt → zSt → zSt → zSt → zSt → zSt → zSt → zSt → zSt → Int32 → Option Unit} {L : Nat} {xs : Nat → Int32} {s0 s1 s2 s3 s4 s5 s6 s7 s8 s9 s10 s11 s12 s14 s15 s16 : zSt} {v3 : Int32} (hL : L ≤ 3072) (h0 : 0 ≤ v3.toInt) (h6 : v3.toInt + 6 ≤ L) (hk : ∀ s0 s1 s2 s3 s4 s5 s6 s7 s8 s9 s10 s11 s12 s14 s15 s16 v, INV s0 s1 s2 s3 s5 s6 s7 s8 s9 s10 s11 s12 s14 s15 s16 → v = v3 + 6 → zok (kh18 s0 s1 s2 s3 s4 s5 s6 s7 s8 s9 s10 s11 s12 s14 s15 s16 v) (fun _ => True)) (hi : INV s0 s1 s2 s3 s5 s6 s7 s8 s9 s10 s11 s12 s14 s15 s16) : zok (Law_b979 N kh18 L xs s0 s1 s2 s3 s4 s5 s6 s7 s8 s9 s10 s11 s12 s14 s15 s16 v3) (fun _ => True) := by
  unfold Law_b979
  refine zok_ck (hvi hL h0 h6 1 (by decide)) ?_
  obtain ⟨z, y, ez, ey, ha, hinv⟩ := w_cracked hN (s4 := s4) (xs (Int32.toNatClampNeg (v3 + (1 : Int32)))) hi
  refine zok_be ez ?_
  refine zok_ck (hvi hL h0 h6 1 (by decide)) ?_
  refine zok_be ey ?_
  unfold Law_b1173
  exact hk _ _ _ _ _ _ _ _ _ _ _ _ _ _ _ _ _ hinv rfl
theorem L_first {N : Nat} (hN : 50000000 ≤ N) {kh18 : zSt → zSt → zSt → zSt → zSt → zSt → zSt → zSt → zSt → zSt → zSt → zSt → zSt → zSt → zSt → zSt → Int32 → Option Unit} {L : Nat} {xs : Nat → Int32} {s0 s1 s2 s3 s4 s5 s6 s7 s8 s9 s10 s11 s12 s14 s15 s16 : zSt} {v3 : Int32} (hL : L ≤ 3072) (h0 : 0 ≤ v3.toInt) (h6 : v3.toInt + 6 ≤ L) (hk : ∀ s0 s1 s2 s3 s4 s5 s6 s7 s8 s9 s10 s11 s12 s14 s15 s16 v, INV s0 s1 s2 s3 s5 s6 s7 s8 s9 s10 s11 s12 s14 s15 s16 → v = v3 + 6 → zok (kh18 s0 s1 s2 s3 s4 s5 s6 s7 s8 s9 s10 s11 s12 s14 s15 s16 v) (fun _ => True)) (hi : INV s0 s1 s2 s3 s5 s6 s7 s8 s9 s10 s11 s12 s14 s15 s16) : zok (Law_b1002 N kh18 L xs s0 s1 s2 s3 s4 s5 s6 s7 s8 s9 s10 s11 s12 s14 s15 s16 v3) (fun _ => True) := by
  unfold Law_b1002
  refine zok_ck (hvi hL h0 h6 1 (by decide)) ?_
  obtain ⟨z, y, ez, ey, ha, hinv⟩ := w_first hN (s4 := s4) (xs (Int32.toNatClampNeg (v3 + (1 : Int32)))) hi
  refine zok_be ez ?_
  refine zok_ck (hvi hL h0 h6 1 (by decide)) ?_
  refine zok_be ey ?_
  unfold Law_b1173
  exact hk _ _ _ _ _ _ _ _ _ _ _ _ _ _ _ _ _ hinv rfl
theorem L_dealt {N : Nat} (hN : 50000000 ≤ N) {kh18 : zSt → zSt → zSt → zSt → zSt → zSt → zSt → zSt → zSt → zSt → zSt → zSt → zSt → zSt → zSt → zSt → Int32 → Option Unit} {L : Nat} {xs : Nat → Int32} {s0 s1 s2 s3 s4 s5 s6 s7 s8 s9 s10 s11 s12 s14 s15 s16 : zSt} {v3 : Int32} (hL : L ≤ 3072) (h0 : 0 ≤ v3.toInt) (h6 : v3.toInt + 6 ≤ L) (hk : ∀ s0 s1 s2 s3 s4 s5 s6 s7 s8 s9 s10 s11 s12 s14 s15 s16 v, INV s0 s1 s2 s3 s5 s6 s7 s8 s9 s10 s11 s12 s14 s15 s16 → v = v3 + 6 → zok (kh18 s0 s1 s2 s3 s4 s5 s6 s7 s8 s9 s10 s11 s12 s14 s15 s16 v) (fun _ => True)) (hi : INV s0 s1 s2 s3 s5 s6 s7 s8 s9 s10 s11 s12 s14 s15 s16) : zok (Law_b1025 N kh18 L xs s0 s1 s2 s3 s4 s5 s6 s7 s8 s9 s10 s11 s12 s14 s15 s16 v3) (fun _ => True) := by
  unfold Law_b1025
  refine zok_ck (hvi hL h0 h6 1 (by decide)) ?_
  obtain ⟨z, y, ez, ey, ha, hinv⟩ := w_dealt hN (s4 := s4) (xs (Int32.toNatClampNeg (v3 + (1 : Int32)))) hi
  refine zok_be ez ?_
  refine zok_ck (hvi hL h0 h6 1 (by decide)) ?_
  refine zok_be ey ?_
  refine zok_t ha ?_
  unfold Law_b1173
  exact hk _ _ _ _ _ _ _ _ _ _ _ _ _ _ _ _ _ hinv rfl
theorem L_lies {N : Nat} (hN : 50000000 ≤ N) {kh18 : zSt → zSt → zSt → zSt → zSt → zSt → zSt → zSt → zSt → zSt → zSt → zSt → zSt → zSt → zSt → zSt → Int32 → Option Unit} {L : Nat} {xs : Nat → Int32} {s0 s1 s2 s3 s4 s5 s6 s7 s8 s9 s10 s11 s12 s14 s15 s16 : zSt} {v3 : Int32} (hL : L ≤ 3072) (h0 : 0 ≤ v3.toInt) (h6 : v3.toInt + 6 ≤ L) (hk : ∀ s0 s1 s2 s3 s4 s5 s6 s7 s8 s9 s10 s11 s12 s14 s15 s16 v, INV s0 s1 s2 s3 s5 s6 s7 s8 s9 s10 s11 s12 s14 s15 s16 → v = v3 + 6 → zok (kh18 s0 s1 s2 s3 s4 s5 s6 s7 s8 s9 s10 s11 s12 s14 s15 s16 v) (fun _ => True)) (hi : INV s0 s1 s2 s3 s5 s6 s7 s8 s9 s10 s11 s12 s14 s15 s16) : zok (Law_b1048 N kh18 L xs s0 s1 s2 s3 s4 s5 s6 s7 s8 s9 s10 s11 s12 s14 s15 s16 v3) (fun _ => True) := by
  unfold Law_b1048
  refine zok_ck (hvi hL h0 h6 1 (by decide)) ?_
  obtain ⟨z, y, ez, ey, ha, hinv⟩ := w_lies hN (s4 := s4) (xs (Int32.toNatClampNeg (v3 + (1 : Int32)))) hi
  refine zok_be ez ?_
  refine zok_ck (hvi hL h0 h6 1 (by decide)) ?_
  refine zok_be ey ?_
  unfold Law_b1173
  exact hk _ _ _ _ _ _ _ _ _ _ _ _ _ _ _ _ _ hinv rfl
theorem L_fresh {N : Nat} (hN : 50000000 ≤ N) {kh18 : zSt → zSt → zSt → zSt → zSt → zSt → zSt → zSt → zSt → zSt → zSt → zSt → zSt → zSt → zSt → zSt → Int32 → Option Unit} {L : Nat} {xs : Nat → Int32} {s0 s1 s2 s3 s4 s5 s6 s7 s8 s9 s10 s11 s12 s14 s15 s16 : zSt} {v3 : Int32} (hL : L ≤ 3072) (h0 : 0 ≤ v3.toInt) (h6 : v3.toInt + 6 ≤ L) (hk : ∀ s0 s1 s2 s3 s4 s5 s6 s7 s8 s9 s10 s11 s12 s14 s15 s16 v, INV s0 s1 s2 s3 s5 s6 s7 s8 s9 s10 s11 s12 s14 s15 s16 → v = v3 + 6 → zok (kh18 s0 s1 s2 s3 s4 s5 s6 s7 s8 s9 s10 s11 s12 s14 s15 s16 v) (fun _ => True)) (hi : INV s0 s1 s2 s3 s5 s6 s7 s8 s9 s10 s11 s12 s14 s15 s16) : zok (Law_b1071 N kh18 L xs s0 s1 s2 s3 s4 s5 s6 s7 s8 s9 s10 s11 s12 s14 s15 s16 v3) (fun _ => True) := by
  unfold Law_b1071
  refine zok_ck (hvi hL h0 h6 1 (by decide)) ?_
  refine zok_ck (hvi hL h0 h6 2 (by decide)) ?_
  obtain ⟨z, y, ez, ey, ha, hinv⟩ := w_fresh hN (s4 := s4) (xs (Int32.toNatClampNeg (v3 + (1 : Int32)))) (xs (Int32.toNatClampNeg (v3 + (2 : Int32)))) hi
  refine zok_be ez ?_
  refine zok_ck (hvi hL h0 h6 1 (by decide)) ?_
  refine zok_ck (hvi hL h0 h6 2 (by decide)) ?_
  refine zok_be ey ?_
  unfold Law_b1173
  exact hk _ _ _ _ _ _ _ _ _ _ _ _ _ _ _ _ _ hinv rfl
theorem L_image {N : Nat} (hN : 50000000 ≤ N) {kh18 : zSt → zSt → zSt → zSt → zSt → zSt → zSt → zSt → zSt → zSt → zSt → zSt → zSt → zSt → zSt → zSt → Int32 → Option Unit} {L : Nat} {xs : Nat → Int32} {s0 s1 s2 s3 s4 s5 s6 s7 s8 s9 s10 s11 s12 s14 s15 s16 : zSt} {v3 : Int32} (hL : L ≤ 3072) (h0 : 0 ≤ v3.toInt) (h6 : v3.toInt + 6 ≤ L) (hk : ∀ s0 s1 s2 s3 s4 s5 s6 s7 s8 s9 s10 s11 s12 s14 s15 s16 v, INV s0 s1 s2 s3 s5 s6 s7 s8 s9 s10 s11 s12 s14 s15 s16 → v = v3 + 6 → zok (kh18 s0 s1 s2 s3 s4 s5 s6 s7 s8 s9 s10 s11 s12 s14 s15 s16 v) (fun _ => True)) (hi : INV s0 s1 s2 s3 s5 s6 s7 s8 s9 s10 s11 s12 s14 s15 s16) : zok (Law_b1104 N kh18 L xs s0 s1 s2 s3 s4 s5 s6 s7 s8 s9 s10 s11 s12 s14 s15 s16 v3) (fun _ => True) := by
  unfold Law_b1104
  refine zok_ck (hvi hL h0 h6 1 (by decide)) ?_
  obtain ⟨z, y, ez, ey, ha, hinv⟩ := w_image hN (s4 := s4) (xs (Int32.toNatClampNeg (v3 + (1 : Int32)))) hi
  refine zok_be ez ?_
  refine zok_ck (hvi hL h0 h6 1 (by decide)) ?_
  refine zok_be ey ?_
  unfold Law_b1173
  exact hk _ _ _ _ _ _ _ _ _ _ _ _ _ _ _ _ _ hinv rfl
theorem L_back {N : Nat} (hN : 50000000 ≤ N) {kh18 : zSt → zSt → zSt → zSt → zSt → zSt → zSt → zSt → zSt → zSt → zSt → zSt → zSt → zSt → zSt → zSt → Int32 → Option Unit} {L : Nat} {xs : Nat → Int32} {s0 s1 s2 s3 s4 s5 s6 s7 s8 s9 s10 s11 s12 s14 s15 s16 : zSt} {v3 : Int32} (hL : L ≤ 3072) (h0 : 0 ≤ v3.toInt) (h6 : v3.toInt + 6 ≤ L) (hk : ∀ s0 s1 s2 s3 s4 s5 s6 s7 s8 s9 s10 s11 s12 s14 s15 s16 v, INV s0 s1 s2 s3 s5 s6 s7 s8 s9 s10 s11 s12 s14 s15 s16 → v = v3 + 6 → zok (kh18 s0 s1 s2 s3 s4 s5 s6 s7 s8 s9 s10 s11 s12 s14 s15 s16 v) (fun _ => True)) (hi : INV s0 s1 s2 s3 s5 s6 s7 s8 s9 s10 s11 s12 s14 s15 s16) : zok (Law_b1127 N kh18 L xs s0 s1 s2 s3 s4 s5 s6 s7 s8 s9 s10 s11 s12 s14 s15 s16 v3) (fun _ => True) := by
  unfold Law_b1127
  refine zok_ck (hvi hL h0 h6 1 (by decide)) ?_
  obtain ⟨z, y, ez, ey, ha, hinv⟩ := w_back hN (s4 := s4) (xs (Int32.toNatClampNeg (v3 + (1 : Int32)))) hi
  refine zok_be ez ?_
  refine zok_ck (hvi hL h0 h6 1 (by decide)) ?_
  refine zok_be ey ?_
  unfold Law_b1173
  exact hk _ _ _ _ _ _ _ _ _ _ _ _ _ _ _ _ _ hinv rfl
theorem L_about {N : Nat} (hN : 50000000 ≤ N) {kh18 : zSt → zSt → zSt → zSt → zSt → zSt → zSt → zSt → zSt → zSt → zSt → zSt → zSt → zSt → zSt → zSt → Int32 → Option Unit} {L : Nat} {xs : Nat → Int32} {s0 s1 s2 s3 s4 s5 s6 s7 s8 s9 s10 s11 s12 s14 s15 s16 : zSt} {v3 : Int32} (hL : L ≤ 3072) (h0 : 0 ≤ v3.toInt) (h6 : v3.toInt + 6 ≤ L) (hk : ∀ s0 s1 s2 s3 s4 s5 s6 s7 s8 s9 s10 s11 s12 s14 s15 s16 v, INV s0 s1 s2 s3 s5 s6 s7 s8 s9 s10 s11 s12 s14 s15 s16 → v = v3 + 6 → zok (kh18 s0 s1 s2 s3 s4 s5 s6 s7 s8 s9 s10 s11 s12 s14 s15 s16 v) (fun _ => True)) (hi : INV s0 s1 s2 s3 s5 s6 s7 s8 s9 s10 s11 s12 s14 s15 s16) : zok (Law_b1150 N kh18 L xs s0 s1 s2 s3 s4 s5 s6 s7 s8 s9 s10 s11 s12 s14 s15 s16 v3) (fun _ => True) := by
  unfold Law_b1150
  refine zok_ck (hvi hL h0 h6 1 (by decide)) ?_
  obtain ⟨z, y, ez, ey, ha, hinv⟩ := w_about hN (s4 := s4) (xs (Int32.toNatClampNeg (v3 + (1 : Int32)))) hi
  refine zok_be ez ?_
  refine zok_ck (hvi hL h0 h6 1 (by decide)) ?_
  refine zok_be ey ?_
  unfold Law_b1173
  exact hk _ _ _ _ _ _ _ _ _ _ _ _ _ _ _ _ _ hinv rfl
theorem L_b18 {N : Nat} (hN : 50000000 ≤ N) {kh18 : zSt → zSt → zSt → zSt → zSt → zSt → zSt → zSt → zSt → zSt → zSt → zSt → zSt → zSt → zSt → zSt → Int32 → Option Unit} {L : Nat} {xs : Nat → Int32} {s0 s1 s2 s3 s4 s5 s6 s7 s8 s9 s10 s11 s12 s14 s15 s16 : zSt} {v3 : Int32} (hL : L ≤ 3072) (h0 : 0 ≤ v3.toInt) (hk : ∀ s0 s1 s2 s3 s4 s5 s6 s7 s8 s9 s10 s11 s12 s14 s15 s16 v, v3.toInt + 6 ≤ L → INV s0 s1 s2 s3 s5 s6 s7 s8 s9 s10 s11 s12 s14 s15 s16 → v = v3 + 6 → zok (kh18 s0 s1 s2 s3 s4 s5 s6 s7 s8 s9 s10 s11 s12 s14 s15 s16 v) (fun _ => True)) (hi : INV s0 s1 s2 s3 s5 s6 s7 s8 s9 s10 s11 s12 s14 s15 s16) : zok (Law_b18 N kh18 L xs s0 s1 s2 s3 s4 s5 s6 s7 s8 s9 s10 s11 s12 s14 s15 s16 v3) (fun _ => True) := by
  have eL : (Int32.ofNat L).toInt = L := nI_toInt (n := L) (by omega)
  have e6 : (6 : Int32).toInt = 6 := by decide
  have es := tsub (Int32.ofNat L) 6 (by omega) (by omega)
  unfold Law_b18
  refine zok_ite (fun _ => zok_some trivial) (fun q => ?_)
  have q := tnlt q
  have h6 : v3.toInt + 6 ≤ L := by omega
  have hk := fun s0 s1 s2 s3 s4 s5 s6 s7 s8 s9 s10 s11 s12 s14 s15 s16 v => hk s0 s1 s2 s3 s4 s5 s6 s7 s8 s9 s10 s11 s12 s14 s15 s16 v h6
  refine zok_ck (vin (by omega) (by omega)) ?_
  refine zok_ite (fun _ => L_feed hN hL h0 h6 hk hi) (fun _ => ?_)
  refine zok_ite (fun _ => L_end hN hL h0 h6 hk hi) (fun _ => ?_)
  refine zok_ite (fun _ => L_valley hN hL h0 h6 hk hi) (fun _ => ?_)
  refine zok_ite (fun _ => L_fault hN hL h0 h6 hk hi) (fun _ => ?_)
  refine zok_ite (fun _ => L_bell hN hL h0 h6 hk hi) (fun _ => ?_)
  refine zok_ite (fun _ => L_hear hN hL h0 h6 hk hi) (fun _ => ?_)
  refine zok_ite (fun _ => L_chord hN hL h0 h6 hk hi) (fun _ => ?_)
  refine zok_ite (fun _ => L_comes hN hL h0 h6 hk hi) (fun _ => ?_)
  refine zok_ite (fun _ => L_stand hN hL h0 h6 hk hi) (fun _ => ?_)
  refine zok_ite (fun _ => L_walk hN hL h0 h6 hk hi) (fun _ => ?_)
  refine zok_ite (fun _ => L_crack hN hL h0 h6 hk hi) (fun _ => ?_)
  refine zok_ite (fun _ => L_years hN hL h0 h6 hk hi) (fun _ => ?_)
  refine zok_ite (fun _ => L_sound hN hL h0 h6 hk hi) (fun _ => ?_)
  refine zok_ite (fun _ => L_evening hN hL h0 h6 hk hi) (fun _ => ?_)
  refine zok_ite (fun _ => L_note hN hL h0 h6 hk hi) (fun _ => ?_)
  refine zok_ite (fun _ => L_untell hN hL h0 h6 hk hi) (fun _ => ?_)
  refine zok_ite (fun _ => L_later hN hL h0 h6 hk hi) (fun _ => ?_)
  refine zok_ite (fun _ => L_sets hN hL h0 h6 hk hi) (fun _ => ?_)
  refine zok_ite (fun _ => L_spring hN hL h0 h6 hk hi) (fun _ => ?_)
  refine zok_ite (fun _ => L_parted hN hL h0 h6 hk hi) (fun _ => ?_)
  refine zok_ite (fun _ => L_came hN hL h0 h6 hk hi) (fun _ => ?_)
  refine zok_ite (fun _ => L_cracked hN hL h0 h6 hk hi) (fun _ => ?_)
  refine zok_ite (fun _ => L_first hN hL h0 h6 hk hi) (fun _ => ?_)
  refine zok_ite (fun _ => L_dealt hN hL h0 h6 hk hi) (fun _ => ?_)
  refine zok_ite (fun _ => L_lies hN hL h0 h6 hk hi) (fun _ => ?_)
  refine zok_ite (fun _ => L_fresh hN hL h0 h6 hk hi) (fun _ => ?_)
  refine zok_ite (fun _ => L_image hN hL h0 h6 hk hi) (fun _ => ?_)
  refine zok_ite (fun _ => L_back hN hL h0 h6 hk hi) (fun _ => ?_)
  refine zok_ite (fun _ => L_about hN hL h0 h6 hk hi) (fun _ => ?_)
  unfold Law_b1173
  exact hk _ _ _ _ _ _ _ _ _ _ _ _ _ _ _ _ _ hi rfl
theorem law_loop {N : Nat} (hN : 50000000 ≤ N) {L : Nat} {xs : Nat → Int32} (hL : L ≤ 3072) : ∀ (n : Nat) (s0 s1 s2 s3 s4 s5 s6 s7 s8 s9 s10 s11 s12 s14 s15 s16 : zSt) (v3 : Int32), INV s0 s1 s2 s3 s5 s6 s7 s8 s9 s10 s11 s12 s14 s15 s16 → 0 ≤ v3.toInt → v3.toInt ≤ L → (L : Int) - v3.toInt < n → zok (Law_h18 N L xs n s0 s1 s2 s3 s4 s5 s6 s7 s8 s9 s10 s11 s12 s14 s15 s16 v3) (fun _ => True) := by
  have e6 : (6 : Int32).toInt = 6 := by decide
  intro n
  induction n with
  | zero => intro s0 s1 s2 s3 s4 s5 s6 s7 s8 s9 s10 s11 s12 s14 s15 s16 v3 _ _ _ h; exact absurd h (by omega)
  | succ n ih =>
    intro s0 s1 s2 s3 s4 s5 s6 s7 s8 s9 s10 s11 s12 s14 s15 s16 v3 hi h0 h1 h
    rw [Law_h18_s]
    refine L_b18 hN hL h0 (fun s0 s1 s2 s3 s4 s5 s6 s7 s8 s9 s10 s11 s12 s14 s15 s16 v h6 hi hv => ?_) hi
    have a := tadd v3 6 (by omega) (by omega)
    subst hv
    exact ih _ _ _ _ _ _ _ _ _ _ _ _ _ _ _ _ (v3 + 6) hi (by omega) (by omega) (by omega)
