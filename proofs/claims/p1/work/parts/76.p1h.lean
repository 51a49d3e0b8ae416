theorem q1 : vp_in ((0 : Int32) + 1) 6 := by unfold vp_in; decide
theorem q2 : vp_in ((0 : Int32) + 2) 6 := by unfold vp_in; decide
theorem q3 : vp_in ((0 : Int32) + 3) 6 := by unfold vp_in; decide
theorem q4 : vp_in ((0 : Int32) + 4) 6 := by unfold vp_in; decide
theorem q5 : vp_in ((0 : Int32) + 5) 6 := by unfold vp_in; decide
def hKt (kh : zSt → zSt → zSt → zSt → zSt → zSt → zSt → zSt → zSt → zSt → zSt → zSt → zSt → zSt → zSt → zSt → Int32 → Option Unit) : Prop := ∀ s0 s1 s2 s3 s4 s5 s6 s7 s8 s9 s10 s11 s12 s14 s15 s16, kh s0 s1 s2 s3 s4 s5 s6 s7 s8 s9 s10 s11 s12 s14 s15 s16 (0 + 6) = some ()
theorem L_about (kh : zSt → zSt → zSt → zSt → zSt → zSt → zSt → zSt → zSt → zSt → zSt → zSt → zSt → zSt → zSt → zSt → Int32 → Option Unit) (hk : hKt kh) (xs : Nat → Int32) : Law_b1150 200 kh 6 xs zz m0 (zpI zz 1 (-1)) zz zz zz zz zz zz zz zz zz zz zz zz zz 0 = some () := by
  obtain ⟨z, w, e1, e2, e3⟩ := p_about (xs (Int32.toNatClampNeg (0 + 1)))
  rw [Law_b1150, zck_in q1, e1, zbs, zck_in q1, e2, zbs, if_pos e3]
  exact hk _ _ _ _ _ _ _ _ _ _ _ _ _ _ _ _
theorem L_back (kh : zSt → zSt → zSt → zSt → zSt → zSt → zSt → zSt → zSt → zSt → zSt → zSt → zSt → zSt → zSt → zSt → Int32 → Option Unit) (hk : hKt kh) (xs : Nat → Int32) : Law_b1127 200 kh 6 xs zz m0 (zpI zz 1 (-1)) zz zz zz zz zz zz zz zz zz zz zz zz zz 0 = some () := by
  obtain ⟨z, w, e1, e2, e3⟩ := p_back (xs (Int32.toNatClampNeg (0 + 1)))
  rw [Law_b1127, zck_in q1, e1, zbs, zck_in q1, e2, zbs, if_pos e3]
  exact hk _ _ _ _ _ _ _ _ _ _ _ _ _ _ _ _
theorem L_image (kh : zSt → zSt → zSt → zSt → zSt → zSt → zSt → zSt → zSt → zSt → zSt → zSt → zSt → zSt → zSt → zSt → Int32 → Option Unit) (hk : hKt kh) (xs : Nat → Int32) : Law_b1104 200 kh 6 xs zz m0 (zpI zz 1 (-1)) zz zz zz zz zz zz zz zz zz zz zz zz zz 0 = some () := by
  obtain ⟨z, w, e1, e2, e3⟩ := p_image (xs (Int32.toNatClampNeg (0 + 1)))
  rw [Law_b1104, zck_in q1, e1, zbs, zck_in q1, e2, zbs, if_pos e3]
  exact hk _ _ _ _ _ _ _ _ _ _ _ _ _ _ _ _
theorem L_fresh (kh : zSt → zSt → zSt → zSt → zSt → zSt → zSt → zSt → zSt → zSt → zSt → zSt → zSt → zSt → zSt → zSt → Int32 → Option Unit) (hk : hKt kh) (xs : Nat → Int32) : Law_b1071 200 kh 6 xs zz m0 (zpI zz 1 (-1)) zz zz zz zz zz zz zz zz zz zz zz zz zz 0 = some () := by
  obtain ⟨z, w, e1, e2, e3⟩ := p_fresh (xs (Int32.toNatClampNeg (0 + 1))) (xs (Int32.toNatClampNeg (0 + 2)))
  rw [Law_b1071, zck_in q1, zck_in q2, e1, zbs, zck_in q1, zck_in q2, e2, zbs, if_pos e3]
  exact hk _ _ _ _ _ _ _ _ _ _ _ _ _ _ _ _
theorem L_lies (kh : zSt → zSt → zSt → zSt → zSt → zSt → zSt → zSt → zSt → zSt → zSt → zSt → zSt → zSt → zSt → zSt → Int32 → Option Unit) (hk : hKt kh) (xs : Nat → Int32) : Law_b1048 200 kh 6 xs zz m0 (zpI zz 1 (-1)) zz zz zz zz zz zz zz zz zz zz zz zz zz 0 = some () := by
  obtain ⟨z, w, e1, e2, e3⟩ := p_lies (xs (Int32.toNatClampNeg (0 + 1)))
  rw [Law_b1048, zck_in q1, e1, zbs, zck_in q1, e2, zbs, if_pos e3]
  exact hk _ _ _ _ _ _ _ _ _ _ _ _ _ _ _ _
theorem L_dealt (kh : zSt → zSt → zSt → zSt → zSt → zSt → zSt → zSt → zSt → zSt → zSt → zSt → zSt → zSt → zSt → zSt → Int32 → Option Unit) (hk : hKt kh) (xs : Nat → Int32) : Law_b1025 200 kh 6 xs zz m0 (zpI zz 1 (-1)) zz zz zz zz zz zz zz zz zz zz zz zz zz 0 = some () := by
  obtain ⟨z, w, e1, e2, e3⟩ := p_dealt (xs (Int32.toNatClampNeg (0 + 1)))
  rw [Law_b1025, zck_in q1, e1, zbs, zck_in q1, e2, zbs, if_pos e3]
  exact hk _ _ _ _ _ _ _ _ _ _ _ _ _ _ _ _
theorem L_first (kh : zSt → zSt → zSt → zSt → zSt → zSt → zSt → zSt → zSt → zSt → zSt → zSt → zSt → zSt → zSt → zSt → Int32 → Option Unit) (hk : hKt kh) (xs : Nat → Int32) : Law_b1002 200 kh 6 xs zz m0 (zpI zz 1 (-1)) zz zz zz zz zz zz zz zz zz zz zz zz zz 0 = some () := by
  obtain ⟨z, w, e1, e2, e3⟩ := p_first (xs (Int32.toNatClampNeg (0 + 1)))
  rw [Law_b1002, zck_in q1, e1, zbs, zck_in q1, e2, zbs, if_pos e3]
  exact hk _ _ _ _ _ _ _ _ _ _ _ _ _ _ _ _
theorem L_cracked (kh : zSt → zSt → zSt → zSt → zSt → zSt → zSt → zSt → zSt → zSt → zSt → zSt → zSt → zSt → zSt → zSt → Int32 → Option Unit) (hk : hKt kh) (xs : Nat → Int32) : Law_b979 200 kh 6 xs zz m0 (zpI zz 1 (-1)) zz zz zz zz zz zz zz zz zz zz zz zz zz 0 = some () := by
  obtain ⟨z, w, e1, e2, e3⟩ := p_cracked (xs (Int32.toNatClampNeg (0 + 1)))
  rw [Law_b979, zck_in q1, e1, zbs, zck_in q1, e2, zbs, if_pos e3]
  exact hk _ _ _ _ _ _ _ _ _ _ _ _ _ _ _ _
theorem L_came (kh : zSt → zSt → zSt → zSt → zSt → zSt → zSt → zSt → zSt → zSt → zSt → zSt → zSt → zSt → zSt → zSt → Int32 → Option Unit) (hk : hKt kh) (xs : Nat → Int32) : Law_b916 200 kh 6 xs zz m0 (zpI zz 1 (-1)) zz zz zz zz zz zz zz zz zz zz zz zz zz 0 = some () := by
  obtain ⟨z, w, e1, e2, e3⟩ := p_came (xs (Int32.toNatClampNeg (0 + 1))) (xs (Int32.toNatClampNeg (0 + 2))) (xs (Int32.toNatClampNeg (0 + 3))) (xs (Int32.toNatClampNeg (0 + 4))) (xs (Int32.toNatClampNeg (0 + 5)))
  rw [Law_b916, zck_in q1, zck_in q2, zck_in q3, zck_in q4, zck_in q5, e1, zbs, zck_in q1, zck_in q2, zck_in q3, zck_in q4, zck_in q5, e2, zbs, if_pos e3]
  exact hk _ _ _ _ _ _ _ _ _ _ _ _ _ _ _ _
theorem L_parted (kh : zSt → zSt → zSt → zSt → zSt → zSt → zSt → zSt → zSt → zSt → zSt → zSt → zSt → zSt → zSt → zSt → Int32 → Option Unit) (hk : hKt kh) (xs : Nat → Int32) : Law_b873 200 kh 6 xs zz m0 (zpI zz 1 (-1)) zz zz zz zz zz zz zz zz zz zz zz zz zz 0 = some () := by
  obtain ⟨z, w, e1, e2, e3⟩ := p_parted (xs (Int32.toNatClampNeg (0 + 1))) (xs (Int32.toNatClampNeg (0 + 2))) (xs (Int32.toNatClampNeg (0 + 3)))
  rw [Law_b873, zck_in q1, zck_in q2, zck_in q3, e1, zbs, zck_in q1, zck_in q2, zck_in q3, e2, zbs, if_pos e3]
  exact hk _ _ _ _ _ _ _ _ _ _ _ _ _ _ _ _
theorem L_spring (kh : zSt → zSt → zSt → zSt → zSt → zSt → zSt → zSt → zSt → zSt → zSt → zSt → zSt → zSt → zSt → zSt → Int32 → Option Unit) (hk : hKt kh) (xs : Nat → Int32) : Law_b810 200 kh 6 xs zz m0 (zpI zz 1 (-1)) zz zz zz zz zz zz zz zz zz zz zz zz zz 0 = some () := by
  obtain ⟨z, w, e1, e2, e3⟩ := p_spring (xs (Int32.toNatClampNeg (0 + 1))) (xs (Int32.toNatClampNeg (0 + 2))) (xs (Int32.toNatClampNeg (0 + 3))) (xs (Int32.toNatClampNeg (0 + 4))) (xs (Int32.toNatClampNeg (0 + 5)))
  rw [Law_b810, zck_in q1, zck_in q2, zck_in q3, zck_in q4, zck_in q5, e1, zbs, zck_in q1, zck_in q2, zck_in q3, zck_in q4, zck_in q5, e2, zbs, if_pos e3]
  exact hk _ _ _ _ _ _ _ _ _ _ _ _ _ _ _ _
theorem L_sets (kh : zSt → zSt → zSt → zSt → zSt → zSt → zSt → zSt → zSt → zSt → zSt → zSt → zSt → zSt → zSt → zSt → Int32 → Option Unit) (hk : hKt kh) (xs : Nat → Int32) : Law_b757 200 kh 6 xs zz m0 (zpI zz 1 (-1)) zz zz zz zz zz zz zz zz zz zz zz zz zz 0 = some () := by
  obtain ⟨z, w, e1, e2, e3⟩ := p_sets (xs (Int32.toNatClampNeg (0 + 1))) (xs (Int32.toNatClampNeg (0 + 2))) (xs (Int32.toNatClampNeg (0 + 3))) (xs (Int32.toNatClampNeg (0 + 4)))
  rw [Law_b757, zck_in q1, zck_in q2, zck_in q3, zck_in q4, e1, zbs, zck_in q1, zck_in q2, zck_in q3, zck_in q4, e2, zbs, if_pos e3]
  exact hk _ _ _ _ _ _ _ _ _ _ _ _ _ _ _ _
theorem L_later (kh : zSt → zSt → zSt → zSt → zSt → zSt → zSt → zSt → zSt → zSt → zSt → zSt → zSt → zSt → zSt → zSt → Int32 → Option Unit) (hk : hKt kh) (xs : Nat → Int32) : Law_b734 200 kh 6 xs zz m0 (zpI zz 1 (-1)) zz zz zz zz zz zz zz zz zz zz zz zz zz 0 = some () := by
  obtain ⟨z, w, e1, e2, e3⟩ := p_later (xs (Int32.toNatClampNeg (0 + 1)))
  rw [Law_b734, zck_in q1, e1, zbs, zck_in q1, e2, zbs, if_pos e3]
  exact hk _ _ _ _ _ _ _ _ _ _ _ _ _ _ _ _
theorem L_untell (kh : zSt → zSt → zSt → zSt → zSt → zSt → zSt → zSt → zSt → zSt → zSt → zSt → zSt → zSt → zSt → zSt → Int32 → Option Unit) (hk : hKt kh) (xs : Nat → Int32) : Law_b711 200 kh 6 xs zz m0 (zpI zz 1 (-1)) zz zz zz zz zz zz zz zz zz zz zz zz zz 0 = some () := by
  obtain ⟨z, w, e1, e2, e3⟩ := p_untell (xs (Int32.toNatClampNeg (0 + 1)))
  rw [Law_b711, zck_in q1, e1, zbs, zck_in q1, e2, zbs, if_pos e3]
  exact hk _ _ _ _ _ _ _ _ _ _ _ _ _ _ _ _
theorem L_note (kh : zSt → zSt → zSt → zSt → zSt → zSt → zSt → zSt → zSt → zSt → zSt → zSt → zSt → zSt → zSt → zSt → Int32 → Option Unit) (hk : hKt kh) (xs : Nat → Int32) : Law_b658 200 kh 6 xs zz m0 (zpI zz 1 (-1)) zz zz zz zz zz zz zz zz zz zz zz zz zz 0 = some () := by
  obtain ⟨z, w, e1, e2, e3⟩ := p_note (xs (Int32.toNatClampNeg (0 + 1))) (xs (Int32.toNatClampNeg (0 + 2))) (xs (Int32.toNatClampNeg (0 + 3))) (xs (Int32.toNatClampNeg (0 + 4)))
  rw [Law_b658, zck_in q1, zck_in q2, zck_in q3, zck_in q4, e1, zbs, zck_in q1, zck_in q2, zck_in q3, zck_in q4, e2, zbs, if_pos e3]
  exact hk _ _ _ _ _ _ _ _ _ _ _ _ _ _ _ _
theorem L_evening (kh : zSt → zSt → zSt → zSt → zSt → zSt → zSt → zSt → zSt → zSt → zSt → zSt → zSt → zSt → zSt → zSt → Int32 → Option Unit) (hk : hKt kh) (xs : Nat → Int32) : Law_b625 200 kh 6 xs zz m0 (zpI zz 1 (-1)) zz zz zz zz zz zz zz zz zz zz zz zz zz 0 = some () := by
  obtain ⟨z, w, e1, e2, e3⟩ := p_evening (xs (Int32.toNatClampNeg (0 + 1))) (xs (Int32.toNatClampNeg (0 + 2)))
  rw [Law_b625, zck_in q1, zck_in q2, e1, zbs, zck_in q1, zck_in q2, e2, zbs, if_pos e3]
  exact hk _ _ _ _ _ _ _ _ _ _ _ _ _ _ _ _
theorem L_sound (kh : zSt → zSt → zSt → zSt → zSt → zSt → zSt → zSt → zSt → zSt → zSt → zSt → zSt → zSt → zSt → zSt → Int32 → Option Unit) (hk : hKt kh) (xs : Nat → Int32) : Law_b562 200 kh 6 xs zz m0 (zpI zz 1 (-1)) zz zz zz zz zz zz zz zz zz zz zz zz zz 0 = some () := by
  obtain ⟨z, w, e1, e2, e3⟩ := p_sound (xs (Int32.toNatClampNeg (0 + 1))) (xs (Int32.toNatClampNeg (0 + 2))) (xs (Int32.toNatClampNeg (0 + 3))) (xs (Int32.toNatClampNeg (0 + 4))) (xs (Int32.toNatClampNeg (0 + 5)))
  rw [Law_b562, zck_in q1, zck_in q2, zck_in q3, zck_in q4, zck_in q5, e1, zbs, zck_in q1, zck_in q2, zck_in q3, zck_in q4, zck_in q5, e2, zbs, if_pos e3]
  exact hk _ _ _ _ _ _ _ _ _ _ _ _ _ _ _ _
theorem L_years (kh : zSt → zSt → zSt → zSt → zSt → zSt → zSt → zSt → zSt → zSt → zSt → zSt → zSt → zSt → zSt → zSt → Int32 → Option Unit) (hk : hKt kh) (xs : Nat → Int32) : Law_b539 200 kh 6 xs zz m0 (zpI zz 1 (-1)) zz zz zz zz zz zz zz zz zz zz zz zz zz 0 = some () := by
  obtain ⟨z, w, e1, e2, e3⟩ := p_years (xs (Int32.toNatClampNeg (0 + 1)))
  rw [Law_b539, zck_in q1, e1, zbs, zck_in q1, e2, zbs, if_pos e3]
  exact hk _ _ _ _ _ _ _ _ _ _ _ _ _ _ _ _
theorem L_crack (kh : zSt → zSt → zSt → zSt → zSt → zSt → zSt → zSt → zSt → zSt → zSt → zSt → zSt → zSt → zSt → zSt → Int32 → Option Unit) (hk : hKt kh) (xs : Nat → Int32) : Law_b506 200 kh 6 xs zz m0 (zpI zz 1 (-1)) zz zz zz zz zz zz zz zz zz zz zz zz zz 0 = some () := by
  obtain ⟨z, w, e1, e2, e3⟩ := p_crack (xs (Int32.toNatClampNeg (0 + 1))) (xs (Int32.toNatClampNeg (0 + 2)))
  rw [Law_b506, zck_in q1, zck_in q2, e1, zbs, zck_in q1, zck_in q2, e2, zbs, if_pos e3]
  exact hk _ _ _ _ _ _ _ _ _ _ _ _ _ _ _ _
theorem L_walk (kh : zSt → zSt → zSt → zSt → zSt → zSt → zSt → zSt → zSt → zSt → zSt → zSt → zSt → zSt → zSt → zSt → Int32 → Option Unit) (hk : hKt kh) (xs : Nat → Int32) : Law_b473 200 kh 6 xs zz m0 (zpI zz 1 (-1)) zz zz zz zz zz zz zz zz zz zz zz zz zz 0 = some () := by
  obtain ⟨z, w, e1, e2, e3⟩ := p_walk (xs (Int32.toNatClampNeg (0 + 1))) (xs (Int32.toNatClampNeg (0 + 2)))
  rw [Law_b473, zck_in q1, zck_in q2, e1, zbs, zck_in q1, zck_in q2, e2, zbs, if_pos e3]
  exact hk _ _ _ _ _ _ _ _ _ _ _ _ _ _ _ _
theorem L_chord (kh : zSt → zSt → zSt → zSt → zSt → zSt → zSt → zSt → zSt → zSt → zSt → zSt → zSt → zSt → zSt → zSt → Int32 → Option Unit) (hk : hKt kh) (xs : Nat → Int32) : Law_b352 200 kh 6 xs zz m0 (zpI zz 1 (-1)) zz zz zz zz zz zz zz zz zz zz zz zz zz 0 = some () := by
  obtain ⟨z, w, e1, e2, e3⟩ := p_chord (xs (Int32.toNatClampNeg (0 + 1)))
  rw [Law_b352, zck_in q1, e1, zbs, zck_in q1, e2, zbs, if_pos e3]
  exact hk _ _ _ _ _ _ _ _ _ _ _ _ _ _ _ _
theorem L_hear (kh : zSt → zSt → zSt → zSt → zSt → zSt → zSt → zSt → zSt → zSt → zSt → zSt → zSt → zSt → zSt → zSt → Int32 → Option Unit) (hk : hKt kh) (xs : Nat → Int32) : Law_b319 200 kh 6 xs zz m0 (zpI zz 1 (-1)) zz zz zz zz zz zz zz zz zz zz zz zz zz 0 = some () := by
  obtain ⟨z, w, e1, e2, e3⟩ := p_hear (xs (Int32.toNatClampNeg (0 + 1))) (xs (Int32.toNatClampNeg (0 + 2)))
  rw [Law_b319, zck_in q1, zck_in q2, e1, zbs, zck_in q1, zck_in q2, e2, zbs, if_pos e3]
  exact hk _ _ _ _ _ _ _ _ _ _ _ _ _ _ _ _
theorem L_bell (kh : zSt → zSt → zSt → zSt → zSt → zSt → zSt → zSt → zSt → zSt → zSt → zSt → zSt → zSt → zSt → zSt → Int32 → Option Unit) (hk : hKt kh) (xs : Nat → Int32) : Law_b286 200 kh 6 xs zz m0 (zpI zz 1 (-1)) zz zz zz zz zz zz zz zz zz zz zz zz zz 0 = some () := by
  obtain ⟨z, w, e1, e2, e3⟩ := p_bell (xs (Int32.toNatClampNeg (0 + 1))) (xs (Int32.toNatClampNeg (0 + 2)))
  rw [Law_b286, zck_in q1, zck_in q2, e1, zbs, zck_in q1, zck_in q2, e2, zbs, if_pos e3]
  exact hk _ _ _ _ _ _ _ _ _ _ _ _ _ _ _ _
theorem L_fault (kh : zSt → zSt → zSt → zSt → zSt → zSt → zSt → zSt → zSt → zSt → zSt → zSt → zSt → zSt → zSt → zSt → Int32 → Option Unit) (hk : hKt kh) (xs : Nat → Int32) : Law_b263 200 kh 6 xs zz m0 (zpI zz 1 (-1)) zz zz zz zz zz zz zz zz zz zz zz zz zz 0 = some () := by
  obtain ⟨z, w, e1, e2, e3⟩ := p_fault (xs (Int32.toNatClampNeg (0 + 1)))
  rw [Law_b263, zck_in q1, e1, zbs, zck_in q1, e2, zbs, if_pos e3]
  exact hk _ _ _ _ _ _ _ _ _ _ _ _ _ _ _ _
theorem L_end (kh : zSt → zSt → zSt → zSt → zSt → zSt → zSt → zSt → zSt → zSt → zSt → zSt → zSt → zSt → zSt → zSt → Int32 → Option Unit) (hk : hKt kh) (xs : Nat → Int32) : Law_b227 200 kh 6 xs zz m0 (zpI zz 1 (-1)) zz zz zz zz zz zz zz zz zz zz zz zz zz 0 = some () := by
  obtain ⟨z, w, e1, e2, e3⟩ := p_end (xs (Int32.toNatClampNeg (0 + 1)))
  rw [Law_b227, zck_in q1, e1, zbs, zck_in q1, e2, zbs, if_pos e3]
  exact hk _ _ _ _ _ _ _ _ _ _ _ _ _ _ _ _
theorem L_feed (kh : zSt → zSt → zSt → zSt → zSt → zSt → zSt → zSt → zSt → zSt → zSt → zSt → zSt → zSt → zSt → zSt → Int32 → Option Unit) (hk : hKt kh) (xs : Nat → Int32) : Law_b164 200 kh 6 xs zz m0 (zpI zz 1 (-1)) zz zz zz zz zz zz zz zz zz zz zz zz zz 0 = some () := by
  obtain ⟨z, w, e1, e2, e3⟩ := p_feed (xs (Int32.toNatClampNeg (0 + 1))) (xs (Int32.toNatClampNeg (0 + 2))) (xs (Int32.toNatClampNeg (0 + 3))) (xs (Int32.toNatClampNeg (0 + 4))) (xs (Int32.toNatClampNeg (0 + 5)))
  rw [Law_b164, zck_in q1, zck_in q2, zck_in q3, zck_in q4, zck_in q5, e1, zbs, zck_in q1, zck_in q2, zck_in q3, zck_in q4, zck_in q5, e2, zbs, if_pos e3]
  exact hk _ _ _ _ _ _ _ _ _ _ _ _ _ _ _ _
