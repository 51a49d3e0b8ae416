theorem IS.fd {rg ra : Nat → Int × Int} {s z : zSt} (h : IS rg ra s) (k : FdK s z) (h1 : (rg 1).1 ≤ (zI z 1).toInt ∧ (zI z 1).toInt ≤ (rg 1).2) (h0 : ra 0 = (-2147483648, 2147483647)) : IS rg ra z := by
  refine ⟨fun j => ?_, fun j i => ?_⟩
  · by_cases q : j = 1
    · rw [q]; exact h1
    · rw [k.1 j q]; exact h.1 j
  · by_cases q : j = 0
    · rw [q, h0]; exact tr _
    · rw [k.2 j q]; exact h.2 j i
theorem TapeR.rg {s M : zSt} (h : TapeR s M) : ((0 : Int) ≤ (zI s 1).toInt ∧ (zI s 1).toInt ≤ 1500) ∧ ((0 : Int) ≤ (zI M 1).toInt ∧ (zI M 1).toInt ≤ 1500) := by
  obtain ⟨T, n, hn, _, h1, h2, _⟩ := h
  rw [h1, h2, nI_toInt (by omega)]
  omega
theorem TapeR.cg {s s' M M' : zSt} (h : TapeR s M) (e1 : zI s' 1 = zI s 1) (e2 : zA s' 0 = zA s 0) (e3 : zI M' 1 = zI M 1) (e4 : zA M' 0 = zA M 0) : TapeR s' M' := by
  obtain ⟨T, n, h1, h2, h3, h4, h5, h6⟩ := h
  exact ⟨T, n, h1, h2, by rw [e1]; exact h3, by rw [e3]; exact h4, by rw [e2]; exact h5, by rw [e4]; exact h6⟩
theorem NowR.cg {y z S1 S5 : zSt} (h : NowR y z) (e1 : zI S1 = zI y) (e2 : zI S5 = zI z) (e3 : zA S1 33 = zA y 33) (e4 : zA S5 5 = zA z 5) : NowR S1 S5 := by
  unfold NowR at h ⊢
  rw [e1, e2, e3, e4]
  exact h
theorem BoxR.cg {s s' M M' B0 B1 B2 : zSt} (h : BoxR s M B0 B1 B2) (e7 : zI s' 7 = zI s 7) (e62 : zA M' 62 = zA M 62) (e63 : zA M' 63 = zA M 63) : BoxR s' M' B0 B1 B2 := by
  obtain ⟨⟨K, hK, h7⟩, b0, b1, b2⟩ := h
  exact ⟨⟨K, hK, by rw [e7]; exact h7⟩, b0.fr e7 e62 e63, b1.fr e7 e62 e63, b2.fr e7 e62 e63⟩
theorem LandR.cg {M M' V : zSt} (h : LandR M V) (e : zI M' = zI M) (a : ∀ k, 16 ≤ k → k ≤ 21 → zA M' k = zA M k) : LandR M' V := by
  have f : Fr [] (if True then [0, 1, 2, 3, 4, 5, 6, 7, 8, 9] else []) M' M → True := fun _ => trivial
  obtain ⟨h, b, k, e', c0, v, c, r1, r2, r3, r4, r5⟩ := h
  refine ⟨h, b, k, e', by rw [e]; exact c0, v, c, ?_, ?_, r3, r4, ?_⟩
  · rw [a 16 (by decide) (by decide), a 17 (by decide) (by decide), a 18 (by decide) (by decide), a 20 (by decide) (by decide)]; exact r1
  · rw [a 19 (by decide) (by decide)]; exact r2
  · unfold BL; rw [a 21 (by decide) (by decide)]; exact r5
theorem I_any {s : zSt} : I_Teller s := ⟨fun _ => tr _, fun _ _ => tr _⟩
