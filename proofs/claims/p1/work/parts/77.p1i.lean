theorem L_comes (kh : zSt → zSt → zSt → zSt → zSt → zSt → zSt → zSt → zSt → zSt → zSt → zSt → zSt → zSt → zSt → zSt → Int32 → Option Unit) (hk : hKt kh) (xs : Nat → Int32) : Law_b375 200 kh 6 xs zz m0 (zpI zz 1 (-1)) zz zz zz zz zz zz zz zz zz zz zz zz zz 0 = some () := by
  rw [Law_b375, zck_in q1, zck_in q2]
  by_cases h : xs (Int32.toNatClampNeg (0 + 2)) = 0
  · obtain ⟨z, w, e1, e2, e3⟩ := p_comes (xs (Int32.toNatClampNeg (0 + 1))) 0 0
    rw [if_pos h, Law_b394, e1, zbs, zck_in q1, zck_in q2, if_pos h, Law_b416, e2, zbs, if_pos e3]
    exact hk _ _ _ _ _ _ _ _ _ _ _ _ _ _ _ _
  · obtain ⟨z, w, e1, e2, e3⟩ := p_comes (xs (Int32.toNatClampNeg (0 + 1))) 1 1
    rw [if_neg h, Law_b394, e1, zbs, zck_in q1, zck_in q2, if_neg h, Law_b416, e2, zbs, if_pos e3]
    exact hk _ _ _ _ _ _ _ _ _ _ _ _ _ _ _ _
theorem L_stand (kh : zSt → zSt → zSt → zSt → zSt → zSt → zSt → zSt → zSt → zSt → zSt → zSt → zSt → zSt → zSt → zSt → Int32 → Option Unit) (hk : hKt kh) (xs : Nat → Int32) : Law_b424 200 kh 6 xs zz m0 (zpI zz 1 (-1)) zz zz zz zz zz zz zz zz zz zz zz zz zz 0 = some () := by
  rw [Law_b424, zck_in q1, zck_in q2]
  by_cases h : xs (Int32.toNatClampNeg (0 + 2)) = 0
  · obtain ⟨z, w, e1, e2, e3⟩ := p_stand (xs (Int32.toNatClampNeg (0 + 1))) 0 0
    rw [if_pos h, Law_b443, e1, zbs, zck_in q1, zck_in q2, if_pos h, Law_b465, e2, zbs, if_pos e3]
    exact hk _ _ _ _ _ _ _ _ _ _ _ _ _ _ _ _
  · obtain ⟨z, w, e1, e2, e3⟩ := p_stand (xs (Int32.toNatClampNeg (0 + 1))) 1 1
    rw [if_neg h, Law_b443, e1, zbs, zck_in q1, zck_in q2, if_neg h, Law_b465, e2, zbs, if_pos e3]
    exact hk _ _ _ _ _ _ _ _ _ _ _ _ _ _ _ _
theorem L_valley (kh : zSt → zSt → zSt → zSt → zSt → zSt → zSt → zSt → zSt → zSt → zSt → zSt → zSt → zSt → zSt → zSt → Int32 → Option Unit) (hk : hKt kh) (xs : Nat → Int32) : Law_b250 200 kh 6 xs zz m0 (zpI zz 1 (-1)) zz zz zz zz zz zz zz zz zz zz zz zz zz 0 = some () := by
  obtain ⟨z, w, e1, e2, e3⟩ := p_valley
  rw [Law_b250, e1, zbs, Law_b254, Law_b254, e2, zbs, zbs, if_pos e3, if_pos e3]
  by_cases h : z.2.2.2.2.2.2.2.2 = true
  · rw [if_pos h]; exact hk _ _ _ _ _ _ _ _ _ _ _ _ _ _ _ _
  · rw [if_neg h]; exact hk _ _ _ _ _ _ _ _ _ _ _ _ _ _ _ _
theorem L_all (kh : zSt → zSt → zSt → zSt → zSt → zSt → zSt → zSt → zSt → zSt → zSt → zSt → zSt → zSt → zSt → zSt → Int32 → Option Unit) (hk : hKt kh) (xs : Nat → Int32) : Law_b18 200 kh 6 xs zz m0 (zpI zz 1 (-1)) zz zz zz zz zz zz zz zz zz zz zz zz zz 0 = some () := by
  rw [Law_b18, if_neg (by decide), zck_in (show vp_in 0 6 by unfold vp_in; decide)]
  by_cases h : ((xs (Int32.toNatClampNeg 0)) &&& 31) = 0
  · rw [if_pos h]; exact L_feed kh hk xs
  rw [if_neg h]; clear h
  by_cases h : ((xs (Int32.toNatClampNeg 0)) &&& 31) = 1
  · rw [if_pos h]; exact L_end kh hk xs
  rw [if_neg h]; clear h
  by_cases h : ((xs (Int32.toNatClampNeg 0)) &&& 31) = 2
  · rw [if_pos h]; exact L_valley kh hk xs
  rw [if_neg h]; clear h
  by_cases h : ((xs (Int32.toNatClampNeg 0)) &&& 31) = 3
  · rw [if_pos h]; exact L_fault kh hk xs
  rw [if_neg h]; clear h
  by_cases h : ((xs (Int32.toNatClampNeg 0)) &&& 31) = 4
  · rw [if_pos h]; exact L_bell kh hk xs
  rw [if_neg h]; clear h
  by_cases h : ((xs (Int32.toNatClampNeg 0)) &&& 31) = 5
  · rw [if_pos h]; exact L_hear kh hk xs
  rw [if_neg h]; clear h
  by_cases h : ((xs (Int32.toNatClampNeg 0)) &&& 31) = 6
  · rw [if_pos h]; exact L_chord kh hk xs
  rw [if_neg h]; clear h
  by_cases h : ((xs (Int32.toNatClampNeg 0)) &&& 31) = 7
  · rw [if_pos h]; exact L_comes kh hk xs
  rw [if_neg h]; clear h
  by_cases h : ((xs (Int32.toNatClampNeg 0)) &&& 31) = 8
  · rw [if_pos h]; exact L_stand kh hk xs
  rw [if_neg h]; clear h
  by_cases h : ((xs (Int32.toNatClampNeg 0)) &&& 31) = 9
  · rw [if_pos h]; exact L_walk kh hk xs
  rw [if_neg h]; clear h
  by_cases h : ((xs (Int32.toNatClampNeg 0)) &&& 31) = 10
  · rw [if_pos h]; exact L_crack kh hk xs
  rw [if_neg h]; clear h
  by_cases h : ((xs (Int32.toNatClampNeg 0)) &&& 31) = 11
  · rw [if_pos h]; exact L_years kh hk xs
  rw [if_neg h]; clear h
  by_cases h : ((xs (Int32.toNatClampNeg 0)) &&& 31) = 12
  · rw [if_pos h]; exact L_sound kh hk xs
  rw [if_neg h]; clear h
  by_cases h : ((xs (Int32.toNatClampNeg 0)) &&& 31) = 13
  · rw [if_pos h]; exact L_evening kh hk xs
  rw [if_neg h]; clear h
  by_cases h : ((xs (Int32.toNatClampNeg 0)) &&& 31) = 14
  · rw [if_pos h]; exact L_note kh hk xs
  rw [if_neg h]; clear h
  by_cases h : ((xs (Int32.toNatClampNeg 0)) &&& 31) = 15
  · rw [if_pos h]; exact L_untell kh hk xs
  rw [if_neg h]; clear h
  by_cases h : ((xs (Int32.toNatClampNeg 0)) &&& 31) = 16
  · rw [if_pos h]; exact L_later kh hk xs
  rw [if_neg h]; clear h
  by_cases h : ((xs (Int32.toNatClampNeg 0)) &&& 31) = 17
  · rw [if_pos h]; exact L_sets kh hk xs
  rw [if_neg h]; clear h
  by_cases h : ((xs (Int32.toNatClampNeg 0)) &&& 31) = 18
  · rw [if_pos h]; exact L_spring kh hk xs
  rw [if_neg h]; clear h
  by_cases h : ((xs (Int32.toNatClampNeg 0)) &&& 31) = 19
  · rw [if_pos h]; exact L_parted kh hk xs
  rw [if_neg h]; clear h
  by_cases h : ((xs (Int32.toNatClampNeg 0)) &&& 31) = 20
  · rw [if_pos h]; exact L_came kh hk xs
  rw [if_neg h]; clear h
  by_cases h : ((xs (Int32.toNatClampNeg 0)) &&& 31) = 21
  · rw [if_pos h]; exact L_cracked kh hk xs
  rw [if_neg h]; clear h
  by_cases h : ((xs (Int32.toNatClampNeg 0)) &&& 31) = 22
  · rw [if_pos h]; exact L_first kh hk xs
  rw [if_neg h]; clear h
  by_cases h : ((xs (Int32.toNatClampNeg 0)) &&& 31) = 23
  · rw [if_pos h]; exact L_dealt kh hk xs
  rw [if_neg h]; clear h
  by_cases h : ((xs (Int32.toNatClampNeg 0)) &&& 31) = 24
  · rw [if_pos h]; exact L_lies kh hk xs
  rw [if_neg h]; clear h
  by_cases h : ((xs (Int32.toNatClampNeg 0)) &&& 31) = 25
  · rw [if_pos h]; exact L_fresh kh hk xs
  rw [if_neg h]; clear h
  by_cases h : ((xs (Int32.toNatClampNeg 0)) &&& 31) = 26
  · rw [if_pos h]; exact L_image kh hk xs
  rw [if_neg h]; clear h
  by_cases h : ((xs (Int32.toNatClampNeg 0)) &&& 31) = 27
  · rw [if_pos h]; exact L_back kh hk xs
  rw [if_neg h]; clear h
  by_cases h : ((xs (Int32.toNatClampNeg 0)) &&& 31) = 28
  · rw [if_pos h]; exact L_about kh hk xs
  rw [if_neg h]; clear h
  exact hk _ _ _ _ _ _ _ _ _ _ _ _ _ _ _ _

theorem p1_law (L : Nat) (hL : L ≤ 6) (xs : Nat → Int32) : Law_h18 200 L xs 2 zz (zpI zz 3 (-1)) (zpI zz 1 (-1)) zz zz zz zz zz zz zz zz zz zz zz zz zz 0 = some () := by
  rw [Law_h18_s]
  have hL : L = 0 ∨ L = 1 ∨ L = 2 ∨ L = 3 ∨ L = 4 ∨ L = 5 ∨ L = 6 := by omega
  rcases hL with rfl | rfl | rfl | rfl | rfl | rfl | rfl
  · rw [Law_b18, if_pos (by decide)]
  · rw [Law_b18, if_pos (by decide)]
  · rw [Law_b18, if_pos (by decide)]
  · rw [Law_b18, if_pos (by decide)]
  · rw [Law_b18, if_pos (by decide)]
  · rw [Law_b18, if_pos (by decide)]
  · refine L_all _ (fun s0 s1 s2 s3 s4 s5 s6 s7 s8 s9 s10 s11 s12 s14 s15 s16 => ?_) xs
    rw [Law_h18_s, Law_b18, if_pos (by decide)]
