theorem w_feed {N : Nat} (hN : 50000000 ≤ N) {s0 s1 s2 s3 s4 s5 s6 s7 s8 s9 s10 s11 s12 s14 s15 s16 : zSt} (v1 : Int32) (v2 : Int32) (v3 : Int32) (v4 : Int32) (v5 : Int32) (hi : INV s0 s1 s2 s3 s5 s6 s7 s8 s9 s10 s11 s12 s14 s15 s16) : ∃ z y, CH_feed N s0 v1 v2 v3 v4 v5 = some z ∧ Mo_feed N s1 v1 v2 v3 v4 v5 = some y ∧ z.1 = y.1 ∧ INV (zmg [10] z.2 s0) (zmg [10, 11, 12, 13, 14, 15, 16, 17, 18, 19, 20, 21, 33, 39, 40, 41, 42, 43, 44, 45, 46, 49, 56, 57, 59, 60, 62, 63] y.2 s1) s2 s3 s5 s6 s7 s8 s9 s10 s11 s12 s14 s15 s16 := by
  obtain ⟨⟨i0, i1, i3, i5, i6, iE, i7, i8, i9, i10, i11, i12, i14, i15, i16⟩, r⟩ := hi
  obtain ⟨r1, r2, r3, r4, r5, r6⟩ := r
  obtain ⟨z, y, ez, ey, ha, hT, k0, k1⟩ := feed_two (N := N) (by omega) v1 v2 v3 v4 v5 r1
  have fr_z_2 := k0.fr
  have fr_y_2 := k1.fr
  have h_z_2 : I_CH z.2 := IS.fd i0 k0 hT.rg.1 rfl
  have h_y_2 : I_Mo y.2 := IS.fd i1 k1 hT.rg.2 rfl
  exact ⟨z, y, ez, ey, ha, ⟨(IS.mg _ h_z_2 i0), (IS.mg _ h_y_2 i1), i3, i5, i6, iE, i7, i8, i9, i10, i11, i12, i14, i15, i16⟩, hT.cg rfl (by rw [zA_mg, if_neg (by decide)]) rfl (by rw [zA_mg, if_neg (by decide)]), TimR.fr r2 (Fr.mg fr_z_2 Fr.rf) (Fr.mg fr_y_2 Fr.rf) rfl rfl, r3.fr (Fr.mg fr_y_2 Fr.rf) rfl, r4.fr (Fr.mg fr_y_2 Fr.rf) rfl rfl, r5.fr (Fr.mg fr_y_2 Fr.rf) rfl rfl, r6.fr (Fr.mg fr_z_2 Fr.rf) (Fr.mg fr_y_2 Fr.rf) rfl rfl rfl⟩
theorem w_end {N : Nat} (hN : 50000000 ≤ N) {s0 s1 s2 s3 s4 s5 s6 s7 s8 s9 s10 s11 s12 s14 s15 s16 : zSt} (v1 : Int32) (hi : INV s0 s1 s2 s3 s5 s6 s7 s8 s9 s10 s11 s12 s14 s15 s16) : ∃ z y, CH_end N s0 v1 = some z ∧ Mo_end N s1 v1 = some y ∧ z.1 = y.1 ∧ INV (zmg [0, 10] z.2 s0) (zmg [0, 10, 11, 12, 13, 14, 15, 16, 17, 18, 19, 20, 21, 33, 39, 40, 41, 42, 43, 44, 45, 46, 49, 56, 57, 59, 60, 62, 63] y.2 s1) s2 s3 s5 s6 s7 s8 s9 s10 s11 s12 s14 s15 s16 := by
  obtain ⟨⟨i0, i1, i3, i5, i6, iE, i7, i8, i9, i10, i11, i12, i14, i15, i16⟩, r⟩ := hi
  obtain ⟨r1, r2, r3, r4, r5, r6⟩ := r
  obtain ⟨z, y, ez, ey, ha, hT, k0, k1⟩ := end_two (N := N) v1 r1
  obtain ⟨h_z_1, h_z_2, fr_z_2⟩ := zok_at ez (t_CH_end N hN s0 v1 i0)
  obtain ⟨h_y_1, h_y_2, fr_y_2⟩ := zok_at ey (t_Mo_end N hN s1 v1 i1)
  exact ⟨z, y, ez, ey, ha, ⟨(IS.mg _ h_z_2 i0), (IS.mg _ h_y_2 i1), i3, i5, i6, iE, i7, i8, i9, i10, i11, i12, i14, i15, i16⟩, hT.cg rfl (by rw [zA_mg, if_pos (by decide)]; exact (fr_z_2.2 0 rfl).symm) rfl (by rw [zA_mg, if_pos (by decide)]; exact (fr_y_2.2 0 rfl).symm), TimR.fr r2 (Fr.mg fr_z_2 Fr.rf) (Fr.mg fr_y_2 Fr.rf) rfl rfl, r3.fr (Fr.mg fr_y_2 Fr.rf) rfl, r4.fr (Fr.mg fr_y_2 Fr.rf) rfl rfl, r5.fr (Fr.mg fr_y_2 Fr.rf) rfl rfl, r6.fr (Fr.mg fr_z_2 Fr.rf) (Fr.mg fr_y_2 Fr.rf) rfl rfl rfl⟩
theorem w_valley {N : Nat} (hN : 50000000 ≤ N) {s0 s1 s2 s3 s4 s5 s6 s7 s8 s9 s10 s11 s12 s14 s15 s16 : zSt} (hi : INV s0 s1 s2 s3 s5 s6 s7 s8 s9 s10 s11 s12 s14 s15 s16) : ∃ z y, CH_valley N s0 s2 s3 s4 (zA s0 0) s5 s6 s7 = some z ∧ Mo_valley N s1 = some y ∧ z.1 = y.1 ∧ ((z.2.2.2.2.2.2.2.2 = true ∧ INV (zmg [0, 10] z.2.1 s0) (zmg [39, 40, 41, 42, 43, 44, 45, 46, 49, 56, 57, 59, 60, 63] y.2 s1) z.2.2.1 s8 z.2.2.2.2.2.1 (zmg [1, 2, 3, 4, 5, 6, 7] z.2.2.2.2.2.2.1 s6) z.2.2.2.2.2.2.2.1 z.2.2.2.1 s9 s10 s11 s12 s14 s15 s16) ∨ (z.2.2.2.2.2.2.2.2 = false ∧ INV (zmg [0, 10] z.2.1 s0) (zmg [39, 40, 41, 42, 43, 44, 45, 46, 49, 56, 57, 59, 60, 63] y.2 s1) z.2.2.1 z.2.2.2.1 z.2.2.2.2.2.1 (zmg [1, 2, 3, 4, 5, 6, 7] z.2.2.2.2.2.2.1 s6) z.2.2.2.2.2.2.2.1 s8 s9 s10 s11 s12 s14 s15 s16)) := by
  obtain ⟨⟨i0, i1, i3, i5, i6, iE, i7, i8, i9, i10, i11, i12, i14, i15, i16⟩, r⟩ := hi
  obtain ⟨r1, r2, r3, r4, r5, r6⟩ := r
  obtain ⟨z, y, ez, ey, ha, ⟨y1, y0, y48, yf⟩, hV, hP⟩ := valley_two (N := N) (s4 := s4) (s6 := s6) (s7 := s7) (by omega) r1 i3 i5 i1 (s2 := s2)
  have e0 : (0 : Int32).toInt = 0 := by decide
  have p0 : (0 : Int) ≤ (zI s1 1).toInt ∧ (zI s1 1).toInt ≤ 1500 := r1.rg.2
  have hA : ∀ k, [39, 40, 41, 42, 43, 44, 45, 46, 49, 56, 57, 59, 60, 63].contains k = true → zA (zmg [39, 40, 41, 42, 43, 44, 45, 46, 49, 56, 57, 59, 60, 63] y.2 s1) k = zA s1 k := fun k hk => by rw [zA_mg, if_pos hk]
  have hB : ∀ k, ¬ ([39, 40, 41, 42, 43, 44, 45, 46, 49, 56, 57, 59, 60, 63].contains k = true) → zA (zmg [39, 40, 41, 42, 43, 44, 45, 46, 49, 56, 57, 59, 60, 63] y.2 s1) k = zA y.2 k := fun k hk => by rw [zA_mg, if_neg hk]
  obtain ⟨T, n, hn, t1, t2, t3, t4, t5⟩ := r1
  have tape : ∀ S : zSt, zI S 1 = 0 → zA S 0 = zA s0 0 → TapeR S (zmg [39, 40, 41, 42, 43, 44, 45, 46, 49, 56, 57, 59, 60, 63] y.2 s1) := fun S q1 q2 => ⟨T, 0, by omega, t1, q1, y1, by rw [q2]; exact t4, by rw [hB 0 (by decide), y0]; exact t5⟩
  refine ⟨z, y, ez, ey, ha, ?_⟩
  rcases hP with ⟨hf, z0, z5, z6, z7, vI, vA⟩ | ⟨hf, z0, z6, z7, hL, hN2, hE, ⟨w47, w50, w58, w51, w53, w61⟩, w21, w62⟩
  · refine Or.inr ⟨hf, ⟨?_, ?_, hV, by rw [z5]; exact i5, IS.mg _ (by rw [z6]; exact i6) i6, iE.mg rfl rfl, by rw [z7]; exact i7, i8, i9, i10, i11, i12, i14, i15, i16⟩, tape _ (by rw [zI_mg, z0]; rfl) (by rw [zA_mg, if_pos (by decide)]), ?_, yf, ?_, ?_, ?_⟩
    · exact IS.mg _ (by rw [z0]; exact IS.pI 1 0 i0 (show (0 : Int) ≤ (0 : Int32).toInt ∧ (0 : Int32).toInt ≤ 1500 by omega)) i0
    · have hi : ∀ k, 28 ≤ k → zI (zmg [39, 40, 41, 42, 43, 44, 45, 46, 49, 56, 57, 59, 60, 63] y.2 s1) k = zI s1 k := fun k hk => by rw [zI_mg]; exact vI k hk
      have h1 : zI (zmg [39, 40, 41, 42, 43, 44, 45, 46, 49, 56, 57, 59, 60, 63] y.2 s1) 1 = 0 := y1
      have b21 : zA (zmg [39, 40, 41, 42, 43, 44, 45, 46, 49, 56, 57, 59, 60, 63] y.2 s1) 21 = zA s1 21 := by rw [hB 21 (by decide)]; exact vA 21 (by decide)
      have b62 : zA (zmg [39, 40, 41, 42, 43, 44, 45, 46, 49, 56, 57, 59, 60, 63] y.2 s1) 62 = zA s1 62 := by rw [hB 62 (by decide)]; exact vA 62 (by decide)
      exact I_Mo_mk (by rw [h1]; omega) (by rw [hi 28 (by decide)]; exact i1.1 28) (by rw [hi 29 (by decide)]; exact i1.1 29) (by rw [hi 30 (by decide)]; exact i1.1 30) (by rw [hi 31 (by decide)]; exact i1.1 31) (by rw [hi 32 (by decide)]; exact i1.1 32) (by rw [hi 47 (by decide)]; exact i1.1 47) (by rw [hi 48 (by decide)]; exact i1.1 48) (by rw [hi 50 (by decide)]; exact i1.1 50) (by rw [hi 51 (by decide)]; exact i1.1 51) (by rw [hi 53 (by decide)]; exact i1.1 53) (by rw [hi 58 (by decide)]; exact i1.1 58) (by rw [hi 61 (by decide)]; exact i1.1 61) (by rw [b21]; exact i1.2 21) (by rw [hA 41 (by decide)]; exact i1.2 41) (by rw [hA 49 (by decide)]; exact i1.2 49) (by rw [hA 56 (by decide)]; exact i1.2 56) (by rw [b62]; exact i1.2 62)
    · rw [zI_mg, z0, zI_mg, y48]; exact r2
    · have hF : Fr [0, 1, 2, 3, 4, 5, 6, 7, 8, 9, 10, 11, 12, 13, 14, 15, 16, 17, 18, 19, 20, 21, 22, 23, 24, 25, 26, 27] [0, 1, 2, 3, 4, 5, 6, 7, 8, 9, 10, 11, 12, 13, 14, 15] (zmg [39, 40, 41, 42, 43, 44, 45, 46, 49, 56, 57, 59, 60, 63] y.2 s1) s1 → LandR (zmg [39, 40, 41, 42, 43, 44, 45, 46, 49, 56, 57, 59, 60, 63] y.2 s1) s8 := fun f => r4.fr f rfl rfl
      obtain ⟨h, b, k, e, ⟨a1, a2, a3, a4, a5⟩, v, cc, q1, q2, q3, q4, q5⟩ := r4
      have rr : ∀ k, 16 ≤ k → k ≤ 21 → zA (zmg [39, 40, 41, 42, 43, 44, 45, 46, 49, 56, 57, 59, 60, 63] y.2 s1) k = zA s1 k := fun k h1 h2 => by rw [hB k (by simp; omega)]; exact vA k (Or.inl ⟨h1, h2⟩)
      refine ⟨h, b, k, e, ⟨(vI 28 (by decide)).trans a1, (vI 29 (by decide)).trans a2, (vI 30 (by decide)).trans a3, (vI 31 (by decide)).trans a4, (vI 32 (by decide)).trans a5⟩, v, cc, ?_, ?_, q3, q4, ?_⟩
      · rw [rr 16 (by decide) (by decide), rr 17 (by decide) (by decide), rr 18 (by decide) (by decide), rr 20 (by decide) (by decide)]; exact q1
      · rw [rr 19 (by decide) (by decide)]; exact q2
      · unfold BL; rw [rr 21 (by decide) (by decide)]; exact q5
    · rw [z5]
      obtain ⟨⟨n0, n1, n2, n3, n4⟩, n5⟩ := r5
      exact ⟨⟨(vI 34 (by decide)).trans n0, (vI 35 (by decide)).trans n1, (vI 36 (by decide)).trans n2, (vI 37 (by decide)).trans n3, (vI 38 (by decide)).trans n4⟩, by rw [hB 33 (by decide), vA 33 (by decide)]; exact n5⟩
    · exact r6.cg (by rw [zI_mg, z0]; rfl) (by rw [hB 62 (by decide)]; exact vA 62 (by decide)) (hA 63 (by decide))
  · refine Or.inl ⟨hf, ⟨?_, ?_, i8, hE, IS.mg _ (by rw [z6]; exact IS.pI 0 0 i6 (show (0 : Int) ≤ (0 : Int32).toInt ∧ (0 : Int32).toInt ≤ 40 by omega)) i6, iE.mg rfl rfl, by rw [z7]; exact IS.pI 0 0 i7 (show (0 : Int) ≤ (0 : Int32).toInt ∧ (0 : Int32).toInt ≤ 1 by omega), hV, i9, i10, i11, i12, i14, i15, i16⟩, tape _ (by rw [zI_mg, z0]; rfl) (by rw [zA_mg, if_pos (by decide)]), ?_, yf, ?_, ?_, ?_⟩
    · exact IS.mg _ (by rw [z0]; exact IS.pI 7 0 (IS.pI 11 0 (IS.pI 1 0 i0 (show (0 : Int) ≤ (0 : Int32).toInt ∧ (0 : Int32).toInt ≤ 1500 by omega)) (show (0 : Int) ≤ (0 : Int32).toInt ∧ (0 : Int32).toInt ≤ 8 by omega)) (tr _)) i0
    · have h1 : zI (zmg [39, 40, 41, 42, 43, 44, 45, 46, 49, 56, 57, 59, 60, 63] y.2 s1) 1 = 0 := y1
      have hL2 := hL
      obtain ⟨h, b, k, e, ⟨a1, a2, a3, a4, a5⟩, _, ⟨c1, c2, c3, c4, c5, c6⟩, _⟩ := hL2
      have x1 := nI_toInt (n := h) (by omega)
      have x2 := nI_toInt (n := b) (by omega)
      have x3 := nI_toInt (n := k) (by omega)
      have x4 := nI_toInt (n := b - k) (by omega)
      have x5 := nI_toInt (n := e) (by omega)
      have q48 : zI (zmg [39, 40, 41, 42, 43, 44, 45, 46, 49, 56, 57, 59, 60, 63] y.2 s1) 48 = zI s1 48 := y48
      exact I_Mo_mk (by rw [h1]; omega) (by rw [zI_mg, a1]; omega) (by rw [zI_mg, a2]; omega) (by rw [zI_mg, a3]; omega) (by rw [zI_mg, a4]; omega) (by rw [zI_mg, a5]; omega) (by rw [zI_mg, w47]; omega) (by rw [q48]; exact i1.1 48) (by rw [zI_mg, w50]; omega) (by rw [zI_mg, w51]; exact i1.1 51) (by rw [zI_mg, w53]; exact i1.1 53) (by rw [zI_mg, w58]; omega) (by rw [zI_mg, w61]; exact i1.1 61) (by rw [hB 21 (by decide)]; exact w21) (by rw [hA 41 (by decide)]; exact i1.2 41) (by rw [hA 49 (by decide)]; exact i1.2 49) (by rw [hA 56 (by decide)]; exact i1.2 56) (fun i => by
        rw [hB 62 (by decide), w62 i]
        by_cases q : i < 3
        · rw [if_pos q]; omega
        · rw [if_neg q]; exact i1.2 62 i)
    · rw [zI_mg, z0, zI_mg, y48]; exact r2
    · exact hL.cg rfl (fun k h1 h2 => hB k (by simp; omega))
    · exact hN2.cg rfl rfl (hB 33 (by decide)) rfl
    · have e7 : zI (zmg [0, 10] z.2.1 s0) 7 = 0 := by rw [zI_mg, z0]; rfl
      have bb : ∀ B j, j < 3 → bx (zmg [0, 10] z.2.1 s0) (zmg [39, 40, 41, 42, 43, 44, 45, 46, 49, 56, 57, 59, 60, 63] y.2 s1) B j := fun B j hj => by
        have q : zA (zmg [39, 40, 41, 42, 43, 44, 45, 46, 49, 56, 57, 59, 60, 63] y.2 s1) 62 j = 0 := by rw [hB 62 (by decide), w62 j, if_pos hj]
        refine ⟨⟨fun _ => q, fun _ => ?_⟩, fun c => absurd q c⟩
        rw [e7]
        have : ∀ j, j < 3 → (((0 : Int32) >>> (nI j &&& 31)) &&& 1) = 0 := by decide
        exact this j hj
      exact ⟨⟨0, by decide, e7⟩, bb _ 0 (by decide), bb _ 1 (by decide), bb _ 2 (by decide)⟩
theorem w_fault {N : Nat} (hN : 50000000 ≤ N) {s0 s1 s2 s3 s4 s5 s6 s7 s8 s9 s10 s11 s12 s14 s15 s16 : zSt} (v1 : Int32) (hi : INV s0 s1 s2 s3 s5 s6 s7 s8 s9 s10 s11 s12 s14 s15 s16) : ∃ z y, CH_fault N s0 s2 v1 = some z ∧ Mo_fault N s1 v1 = some y ∧ z = y ∧ INV s0 s1 s2 s3 s5 s6 s7 s8 s9 s10 s11 s12 s14 s15 s16 := by
  obtain ⟨⟨i0, i1, i3, i5, i6, iE, i7, i8, i9, i10, i11, i12, i14, i15, i16⟩, r⟩ := hi
  obtain ⟨z, ez, _⟩ := t_CH_fault N hN s0 s2 v1 i0 I_any
  have ey : Mo_fault N s1 v1 = some z := by rw [← ez]; exact (fault_two r.2.2.1).symm
  exact ⟨z, z, ez, ey, rfl, ⟨i0, i1, i3, i5, i6, iE, i7, i8, i9, i10, i11, i12, i14, i15, i16⟩, r⟩
theorem w_bell {N : Nat} (hN : 50000000 ≤ N) {s0 s1 s2 s3 s4 s5 s6 s7 s8 s9 s10 s11 s12 s14 s15 s16 : zSt} (v1 : Int32) (v2 : Int32) (hi : INV s0 s1 s2 s3 s5 s6 s7 s8 s9 s10 s11 s12 s14 s15 s16) : ∃ z y, CH_bell N s0 s8 s5 v1 v2 = some z ∧ Mo_bell N s1 v1 v2 = some y ∧ z = y ∧ INV s0 s1 s2 s3 s5 s6 s7 s8 s9 s10 s11 s12 s14 s15 s16 := by
  obtain ⟨⟨i0, i1, i3, i5, i6, iE, i7, i8, i9, i10, i11, i12, i14, i15, i16⟩, r⟩ := hi
  obtain ⟨z, y, ez, ey, ha⟩ := bell_ans (N := N) (s0 := s0) (v1 := v1) (v2 := v2) hN i5 r.2.2.2.1 r.2.2.2.2.1
  exact ⟨z, y, ez, ey, ha, ⟨i0, i1, i3, i5, i6, iE, i7, i8, i9, i10, i11, i12, i14, i15, i16⟩, r⟩
theorem w_hear {N : Nat} (hN : 50000000 ≤ N) {s0 s1 s2 s3 s4 s5 s6 s7 s8 s9 s10 s11 s12 s14 s15 s16 : zSt} (v1 : Int32) (v2 : Int32) (hi : INV s0 s1 s2 s3 s5 s6 s7 s8 s9 s10 s11 s12 s14 s15 s16) : ∃ z y, CH_hear N s0 s8 s5 v1 v2 = some z ∧ Mo_hear N s1 v1 v2 = some y ∧ z = y ∧ INV s0 s1 s2 s3 s5 s6 s7 s8 s9 s10 s11 s12 s14 s15 s16 := by
  obtain ⟨⟨i0, i1, i3, i5, i6, iE, i7, i8, i9, i10, i11, i12, i14, i15, i16⟩, r⟩ := hi
  obtain ⟨z, y, ez, ey, ha⟩ := hear_ans (N := N) (s0 := s0) (v1 := v1) (v2 := v2) hN i0 i1 i8 i5 r.2.2.2.1 r.2.2.2.2.1
  exact ⟨z, y, ez, ey, ha, ⟨i0, i1, i3, i5, i6, iE, i7, i8, i9, i10, i11, i12, i14, i15, i16⟩, r⟩
theorem w_chord {N : Nat} (hN : 50000000 ≤ N) {s0 s1 s2 s3 s4 s5 s6 s7 s8 s9 s10 s11 s12 s14 s15 s16 : zSt} (v1 : Int32) (hi : INV s0 s1 s2 s3 s5 s6 s7 s8 s9 s10 s11 s12 s14 s15 s16) : ∃ z y, CH_chord N s0 s8 s5 v1 = some z ∧ Mo_chord N s1 v1 = some y ∧ z = y ∧ INV s0 s1 s2 s3 s5 s6 s7 s8 s9 s10 s11 s12 s14 s15 s16 := by
  obtain ⟨⟨i0, i1, i3, i5, i6, iE, i7, i8, i9, i10, i11, i12, i14, i15, i16⟩, r⟩ := hi
  obtain ⟨z, y, ez, ey, ha⟩ := chord_ans (N := N) (s0 := s0) (v1 := v1) hN i0 i1 i8 i5 r.2.2.2.1 r.2.2.2.2.1
  exact ⟨z, y, ez, ey, ha, ⟨i0, i1, i3, i5, i6, iE, i7, i8, i9, i10, i11, i12, i14, i15, i16⟩, r⟩
theorem w_comes {N : Nat} (hN : 50000000 ≤ N) {s0 s1 s2 s3 s4 s5 s6 s7 s8 s9 s10 s11 s12 s14 s15 s16 : zSt} (v1 : Int32) (v2 : Int32) (hv : v2 = 0 ∨ v2 = 1) (hi : INV s0 s1 s2 s3 s5 s6 s7 s8 s9 s10 s11 s12 s14 s15 s16) : ∃ z y, CH_comes N s0 s8 s5 v1 v2 = some z ∧ Mo_comes N s1 v1 v2 = some y ∧ z.1 = y.1 ∧ INV s0 (zmg [0, 10, 11, 12, 13, 14, 15, 16, 17, 18, 19, 20, 21, 33, 39, 40, 41, 42, 43, 44, 45, 46, 49, 56, 57, 59, 60, 62, 63] y.2 s1) s2 s3 (zmg [5] z.2 s5) s6 s7 s8 s9 s10 s11 s12 s14 s15 s16 := by
  obtain ⟨⟨i0, i1, i3, i5, i6, iE, i7, i8, i9, i10, i11, i12, i14, i15, i16⟩, r⟩ := hi
  obtain ⟨r1, r2, r3, r4, r5, r6⟩ := r
  obtain ⟨z, y, ez, ey, ha, hn⟩ := comes_two (N := N) (s0 := s0) (v1 := v1) r4 r5 hv
  obtain ⟨h_z_1, h_z_2, fr_z_2⟩ := zok_at ez (t_CH_comes N hN s0 s8 s5 v1 v2 i0 i8 i5 (by rcases hv with q | q <;> rw [q] <;> decide))
  obtain ⟨h_y_1, h_y_2, fr_y_2⟩ := zok_at ey (t_Mo_comes N hN s1 v1 v2 i1 (by rcases hv with q | q <;> rw [q] <;> decide))
  exact ⟨z, y, ez, ey, ha, ⟨i0, (IS.mg _ h_y_2 i1), i3, (IS.mg _ h_z_2 i5), i6, iE, i7, i8, i9, i10, i11, i12, i14, i15, i16⟩, r1.fr (Fr.rf (W := []) (A := [])) (Fr.mg fr_y_2 Fr.rf) rfl rfl rfl rfl, TimR.fr r2 (Fr.rf (W := []) (A := [])) (Fr.mg fr_y_2 Fr.rf) rfl rfl, r3.fr (Fr.mg fr_y_2 Fr.rf) rfl, r4.fr (Fr.mg fr_y_2 Fr.rf) rfl rfl, hn.cg rfl rfl (by rw [zA_mg, if_pos (by decide)]; exact (fr_y_2.2 33 rfl).symm) (by rw [zA_mg, if_pos (by decide)]; exact (fr_z_2.2 5 rfl).symm), r6.fr (Fr.rf (W := []) (A := [])) (Fr.mg fr_y_2 Fr.rf) rfl rfl rfl⟩
theorem w_stand {N : Nat} (hN : 50000000 ≤ N) {s0 s1 s2 s3 s4 s5 s6 s7 s8 s9 s10 s11 s12 s14 s15 s16 : zSt} (v1 : Int32) (v2 : Int32) (hv : v2 = 0 ∨ v2 = 1) (hi : INV s0 s1 s2 s3 s5 s6 s7 s8 s9 s10 s11 s12 s14 s15 s16) : ∃ z y, CH_stand N s0 s8 s5 v1 v2 = some z ∧ Mo_stand N s1 v1 v2 = some y ∧ z.1 = y.1 ∧ INV s0 (zmg [0, 10, 11, 12, 13, 14, 15, 16, 17, 18, 19, 20, 21, 33, 39, 40, 41, 42, 43, 44, 45, 46, 49, 56, 57, 59, 60, 62, 63] y.2 s1) s2 s3 (zmg [5] z.2 s5) s6 s7 s8 s9 s10 s11 s12 s14 s15 s16 := by
  obtain ⟨⟨i0, i1, i3, i5, i6, iE, i7, i8, i9, i10, i11, i12, i14, i15, i16⟩, r⟩ := hi
  obtain ⟨r1, r2, r3, r4, r5, r6⟩ := r
  obtain ⟨z, y, ez, ey, ha, hn⟩ := stand_two (N := N) (s0 := s0) (v1 := v1) r4 r5 hv
  obtain ⟨h_z_1, h_z_2, fr_z_2⟩ := zok_at ez (t_CH_stand N hN s0 s8 s5 v1 v2 i0 i8 i5 (by rcases hv with q | q <;> rw [q] <;> decide))
  obtain ⟨h_y_1, h_y_2, fr_y_2⟩ := zok_at ey (t_Mo_stand N hN s1 v1 v2 i1 (by rcases hv with q | q <;> rw [q] <;> decide))
  exact ⟨z, y, ez, ey, ha, ⟨i0, (IS.mg _ h_y_2 i1), i3, (IS.mg _ h_z_2 i5), i6, iE, i7, i8, i9, i10, i11, i12, i14, i15, i16⟩, r1.fr (Fr.rf (W := []) (A := [])) (Fr.mg fr_y_2 Fr.rf) rfl rfl rfl rfl, TimR.fr r2 (Fr.rf (W := []) (A := [])) (Fr.mg fr_y_2 Fr.rf) rfl rfl, r3.fr (Fr.mg fr_y_2 Fr.rf) rfl, r4.fr (Fr.mg fr_y_2 Fr.rf) rfl rfl, hn.cg rfl rfl (by rw [zA_mg, if_pos (by decide)]; exact (fr_y_2.2 33 rfl).symm) (by rw [zA_mg, if_pos (by decide)]; exact (fr_z_2.2 5 rfl).symm), r6.fr (Fr.rf (W := []) (A := [])) (Fr.mg fr_y_2 Fr.rf) rfl rfl rfl⟩
theorem w_walk {N : Nat} (hN : 50000000 ≤ N) {s0 s1 s2 s3 s4 s5 s6 s7 s8 s9 s10 s11 s12 s14 s15 s16 : zSt} (v1 : Int32) (v2 : Int32) (hi : INV s0 s1 s2 s3 s5 s6 s7 s8 s9 s10 s11 s12 s14 s15 s16) : ∃ z y, CH_walk N s0 s5 v1 v2 = some z ∧ Mo_walk N s1 v1 v2 = some y ∧ z.1 = y.1 ∧ INV s0 (zmg [0, 10, 11, 12, 13, 14, 15, 16, 17, 18, 19, 20, 21, 33, 39, 40, 41, 42, 43, 44, 45, 46, 49, 56, 57, 59, 60, 62, 63] y.2 s1) s2 s3 (zmg [5] z.2 s5) s6 s7 s8 s9 s10 s11 s12 s14 s15 s16 := by
  obtain ⟨⟨i0, i1, i3, i5, i6, iE, i7, i8, i9, i10, i11, i12, i14, i15, i16⟩, r⟩ := hi
  obtain ⟨r1, r2, r3, r4, r5, r6⟩ := r
  obtain ⟨z, y, ez, ey, ha, hn⟩ := walk_two (N := N) (s0 := s0) (v1 := v1) (v2 := v2) r5
  obtain ⟨h_z_1, h_z_2, fr_z_2⟩ := zok_at ez (t_CH_walk N hN s0 s5 v1 v2 i0 i5)
  obtain ⟨h_y_1, h_y_2, fr_y_2⟩ := zok_at ey (t_Mo_walk N hN s1 v1 v2 i1)
  exact ⟨z, y, ez, ey, ha, ⟨i0, (IS.mg _ h_y_2 i1), i3, (IS.mg _ h_z_2 i5), i6, iE, i7, i8, i9, i10, i11, i12, i14, i15, i16⟩, r1.fr (Fr.rf (W := []) (A := [])) (Fr.mg fr_y_2 Fr.rf) rfl rfl rfl rfl, TimR.fr r2 (Fr.rf (W := []) (A := [])) (Fr.mg fr_y_2 Fr.rf) rfl rfl, r3.fr (Fr.mg fr_y_2 Fr.rf) rfl, r4.fr (Fr.mg fr_y_2 Fr.rf) rfl rfl, hn.cg rfl rfl (by rw [zA_mg, if_pos (by decide)]; exact (fr_y_2.2 33 rfl).symm) (by rw [zA_mg, if_pos (by decide)]; exact (fr_z_2.2 5 rfl).symm), r6.fr (Fr.rf (W := []) (A := [])) (Fr.mg fr_y_2 Fr.rf) rfl rfl rfl⟩
theorem w_crack {N : Nat} (hN : 50000000 ≤ N) {s0 s1 s2 s3 s4 s5 s6 s7 s8 s9 s10 s11 s12 s14 s15 s16 : zSt} (v1 : Int32) (v2 : Int32) (hi : INV s0 s1 s2 s3 s5 s6 s7 s8 s9 s10 s11 s12 s14 s15 s16) : ∃ z y, CH_crack N s0 s8 s5 v1 v2 = some z ∧ Mo_crack N s1 v1 v2 = some y ∧ z.1 = y.1 ∧ INV s0 (zmg [0, 10, 11, 12, 13, 14, 15, 16, 17, 18, 19, 20, 21, 39, 40, 41, 42, 43, 44, 45, 46, 49, 56, 57, 59, 60, 62, 63] y.2 s1) s2 s3 z.2 s6 s7 s8 s9 s10 s11 s12 s14 s15 s16 := by
  obtain ⟨⟨i0, i1, i3, i5, i6, iE, i7, i8, i9, i10, i11, i12, i14, i15, i16⟩, r⟩ := hi
  obtain ⟨r1, r2, r3, r4, r5, r6⟩ := r
  obtain ⟨z, y, ez, ey, ha, hn⟩ := crack_two (N := N) (s0 := s0) (v1 := v1) (v2 := v2) r4 r5
  obtain ⟨h_z_1, h_z_2, fr_z_2⟩ := zok_at ez (t_CH_crack N hN s0 s8 s5 v1 v2 i0 i8 i5)
  obtain ⟨h_y_1, h_y_2, fr_y_2⟩ := zok_at ey (t_Mo_crack N hN s1 v1 v2 i1)
  exact ⟨z, y, ez, ey, ha, ⟨i0, (IS.mg _ h_y_2 i1), i3, h_z_2, i6, iE, i7, i8, i9, i10, i11, i12, i14, i15, i16⟩, r1.fr (Fr.rf (W := []) (A := [])) (Fr.mg fr_y_2 Fr.rf) rfl rfl rfl rfl, TimR.fr r2 (Fr.rf (W := []) (A := [])) (Fr.mg fr_y_2 Fr.rf) rfl rfl, r3.fr (Fr.mg fr_y_2 Fr.rf) rfl, r4.fr (Fr.mg fr_y_2 Fr.rf) rfl rfl, hn.cg rfl rfl (by rw [zA_mg, if_neg (by decide)]) rfl, r6.fr (Fr.rf (W := []) (A := [])) (Fr.mg fr_y_2 Fr.rf) rfl rfl rfl⟩
theorem w_years {N : Nat} (hN : 50000000 ≤ N) {s0 s1 s2 s3 s4 s5 s6 s7 s8 s9 s10 s11 s12 s14 s15 s16 : zSt} (v1 : Int32) (hi : INV s0 s1 s2 s3 s5 s6 s7 s8 s9 s10 s11 s12 s14 s15 s16) : ∃ z y, CH_years N s0 s5 v1 = some z ∧ Mo_years N s1 v1 = some y ∧ z.1 = y.1 ∧ INV s0 (zmg [0, 10, 11, 12, 13, 14, 15, 16, 17, 18, 19, 20, 21, 33, 39, 40, 41, 42, 43, 44, 45, 46, 49, 56, 57, 59, 60, 62, 63] y.2 s1) s2 s3 (zmg [5] z.2 s5) s6 s7 s8 s9 s10 s11 s12 s14 s15 s16 := by
  obtain ⟨⟨i0, i1, i3, i5, i6, iE, i7, i8, i9, i10, i11, i12, i14, i15, i16⟩, r⟩ := hi
  obtain ⟨r1, r2, r3, r4, r5, r6⟩ := r
  obtain ⟨z, y, ez, ey, ha, hn⟩ := years_two (N := N) (s0 := s0) (v1 := v1) r5
  obtain ⟨h_z_1, h_z_2, fr_z_2⟩ := zok_at ez (t_CH_years N hN s0 s5 v1 i0 i5)
  obtain ⟨h_y_1, h_y_2, fr_y_2⟩ := zok_at ey (t_Mo_years N hN s1 v1 i1)
  exact ⟨z, y, ez, ey, ha, ⟨i0, (IS.mg _ h_y_2 i1), i3, (IS.mg _ h_z_2 i5), i6, iE, i7, i8, i9, i10, i11, i12, i14, i15, i16⟩, r1.fr (Fr.rf (W := []) (A := [])) (Fr.mg fr_y_2 Fr.rf) rfl rfl rfl rfl, TimR.fr r2 (Fr.rf (W := []) (A := [])) (Fr.mg fr_y_2 Fr.rf) rfl rfl, r3.fr (Fr.mg fr_y_2 Fr.rf) rfl, r4.fr (Fr.mg fr_y_2 Fr.rf) rfl rfl, hn.cg rfl rfl (by rw [zA_mg, if_pos (by decide)]; exact (fr_y_2.2 33 rfl).symm) (by rw [zA_mg, if_pos (by decide)]; exact (fr_z_2.2 5 rfl).symm), r6.fr (Fr.rf (W := []) (A := [])) (Fr.mg fr_y_2 Fr.rf) rfl rfl rfl⟩
theorem w_sound {N : Nat} (hN : 50000000 ≤ N) {s0 s1 s2 s3 s4 s5 s6 s7 s8 s9 s10 s11 s12 s14 s15 s16 : zSt} (v1 : Int32) (v2 : Int32) (v3 : Int32) (v4 : Int32) (v5 : Int32) (hi : INV s0 s1 s2 s3 s5 s6 s7 s8 s9 s10 s11 s12 s14 s15 s16) : ∃ z y, CH_sound N s0 s8 s6 v1 v2 v3 v4 v5 = some z ∧ Mo_sound N s1 v1 v2 v3 v4 v5 = some y ∧ True ∧ INV s0 (zmg [0, 10, 11, 12, 13, 14, 15, 16, 17, 18, 19, 20, 21, 33, 49, 56, 57, 59, 60, 62, 63] y.2 s1) s2 s3 s5 z.2 s7 s8 s9 s10 s11 s12 s14 s15 s16 := by
  obtain ⟨⟨i0, i1, i3, i5, i6, iE, i7, i8, i9, i10, i11, i12, i14, i15, i16⟩, r⟩ := hi
  obtain ⟨z, ez, hz⟩ := t_CH_sound N hN s0 s8 s6 v1 v2 v3 v4 v5 i0 i8 i6
  obtain ⟨h_z_1, h_z_2, fr_z_2⟩ := hz
  obtain ⟨y, ey, hy⟩ := t_Mo_sound N hN s1 v1 v2 v3 v4 v5 i1
  obtain ⟨h_y_1, h_y_2, fr_y_2⟩ := hy
  exact ⟨z, y, ez, ey, trivial, ⟨i0, (IS.mg _ h_y_2 i1), i3, i5, h_z_2, (sound_ET ez iE), i7, i8, i9, i10, i11, i12, i14, i15, i16⟩, r.fr (Fr.rf (W := []) (A := [])) (Fr.mg fr_y_2 Fr.rf) rfl rfl rfl rfl⟩
theorem w_evening {N : Nat} (hN : 50000000 ≤ N) {s0 s1 s2 s3 s4 s5 s6 s7 s8 s9 s10 s11 s12 s14 s15 s16 : zSt} (v1 : Int32) (v2 : Int32) (hi : INV s0 s1 s2 s3 s5 s6 s7 s8 s9 s10 s11 s12 s14 s15 s16) : ∃ z y, CH_evening N s0 s6 v1 v2 = some z ∧ Mo_evening N s1 v1 v2 = some y ∧ True ∧ INV s0 (zmg [0, 10, 11, 12, 13, 14, 15, 16, 17, 18, 19, 20, 21, 33, 49, 56, 57, 59, 60, 62, 63] y.2 s1) s2 s3 s5 z.2 s7 s8 s9 s10 s11 s12 s14 s15 s16 := by
  obtain ⟨⟨i0, i1, i3, i5, i6, iE, i7, i8, i9, i10, i11, i12, i14, i15, i16⟩, r⟩ := hi
  obtain ⟨z, ez, hz⟩ := t_CH_evening N hN s0 s6 v1 v2 i0 i6
  obtain ⟨h_z_1, h_z_2, fr_z_2⟩ := hz
  obtain ⟨y, ey, hy⟩ := t_Mo_evening N hN s1 v1 v2 i1
  obtain ⟨h_y_1, h_y_2, fr_y_2⟩ := hy
  exact ⟨z, y, ez, ey, trivial, ⟨i0, (IS.mg _ h_y_2 i1), i3, i5, h_z_2, (evening_ET ez iE), i7, i8, i9, i10, i11, i12, i14, i15, i16⟩, r.fr (Fr.rf (W := []) (A := [])) (Fr.mg fr_y_2 Fr.rf) rfl rfl rfl rfl⟩
theorem w_note {N : Nat} (hN : 50000000 ≤ N) {s0 s1 s2 s3 s4 s5 s6 s7 s8 s9 s10 s11 s12 s14 s15 s16 : zSt} (v1 : Int32) (v2 : Int32) (v3 : Int32) (v4 : Int32) (hi : INV s0 s1 s2 s3 s5 s6 s7 s8 s9 s10 s11 s12 s14 s15 s16) : ∃ z y, CH_note N s0 s8 s5 s6 v1 v2 v3 v4 = some z ∧ Mo_note N s1 v1 v2 v3 v4 = some y ∧ True ∧ INV s0 (zmg [0, 10, 11, 12, 13, 14, 15, 18, 20, 21, 49, 56, 57, 59, 60, 62, 63] y.2 s1) s2 s3 s5 z.2 s7 s8 s9 s10 s11 s12 s14 s15 s16 := by
  obtain ⟨⟨i0, i1, i3, i5, i6, iE, i7, i8, i9, i10, i11, i12, i14, i15, i16⟩, r⟩ := hi
  obtain ⟨z, ez, hz⟩ := t_CH_note N hN s0 s8 s5 s6 v1 v2 v3 v4 i0 i8 i5 i6
  obtain ⟨h_z_1, h_z_2, fr_z_2⟩ := hz
  obtain ⟨y, ey, hy⟩ := t_Mo_note N hN s1 v1 v2 v3 v4 i1
  obtain ⟨h_y_1, h_y_2, fr_y_2⟩ := hy
  exact ⟨z, y, ez, ey, trivial, ⟨i0, (IS.mg _ h_y_2 i1), i3, i5, h_z_2, (note_ET ez iE), i7, i8, i9, i10, i11, i12, i14, i15, i16⟩, r.fr (Fr.rf (W := []) (A := [])) (Fr.mg fr_y_2 Fr.rf) rfl rfl rfl rfl⟩
theorem w_untell {N : Nat} (hN : 50000000 ≤ N) {s0 s1 s2 s3 s4 s5 s6 s7 s8 s9 s10 s11 s12 s14 s15 s16 : zSt} (v1 : Int32) (hi : INV s0 s1 s2 s3 s5 s6 s7 s8 s9 s10 s11 s12 s14 s15 s16) : ∃ z y, CH_untell N s0 s6 v1 = some z ∧ Mo_untell N s1 v1 = some y ∧ True ∧ INV s0 (zmg [0, 10, 11, 12, 13, 14, 15, 16, 17, 18, 19, 20, 21, 33, 39, 40, 41, 42, 43, 44, 45, 49, 56, 57, 59, 60, 62, 63] y.2 s1) s2 s3 s5 (zmg [1, 2, 3, 4, 5, 6] z.2 s6) s7 s8 s9 s10 s11 s12 s14 s15 s16 := by
  obtain ⟨⟨i0, i1, i3, i5, i6, iE, i7, i8, i9, i10, i11, i12, i14, i15, i16⟩, r⟩ := hi
  obtain ⟨z, ez, hz⟩ := t_CH_untell N hN s0 s6 v1 i0 i6
  obtain ⟨h_z_1, h_z_2, fr_z_2⟩ := hz
  obtain ⟨y, ey, hy⟩ := t_Mo_untell N hN s1 v1 i1
  obtain ⟨h_y_1, h_y_2, fr_y_2⟩ := hy
  exact ⟨z, y, ez, ey, trivial, ⟨i0, (IS.mg _ h_y_2 i1), i3, i5, (IS.mg _ h_z_2 i6), (iE.mg rfl rfl), i7, i8, i9, i10, i11, i12, i14, i15, i16⟩, r.fr (Fr.rf (W := []) (A := [])) (Fr.mg fr_y_2 Fr.rf) rfl rfl rfl rfl⟩
theorem w_later {N : Nat} (hN : 50000000 ≤ N) {s0 s1 s2 s3 s4 s5 s6 s7 s8 s9 s10 s11 s12 s14 s15 s16 : zSt} (v1 : Int32) (hi : INV s0 s1 s2 s3 s5 s6 s7 s8 s9 s10 s11 s12 s14 s15 s16) : ∃ z y, CH_later N s0 v1 = some z ∧ Mo_later N s1 v1 = some y ∧ z.1 = y.1 ∧ INV (zmg [0, 10] z.2 s0) (zmg [0, 10, 11, 12, 13, 14, 15, 16, 17, 18, 19, 20, 21, 33, 39, 40, 41, 42, 43, 44, 45, 46, 49, 56, 57, 59, 60, 62, 63] y.2 s1) s2 s3 s5 s6 s7 s8 s9 s10 s11 s12 s14 s15 s16 := by
  obtain ⟨⟨i0, i1, i3, i5, i6, iE, i7, i8, i9, i10, i11, i12, i14, i15, i16⟩, r⟩ := hi
  obtain ⟨r1, r2, r3, r4, r5, r6⟩ := r
  obtain ⟨z, y, ez, ey, ha, hn⟩ := later_two (N := N) (v1 := v1) r2
  obtain ⟨h_z_1, h_z_2, fr_z_2⟩ := zok_at ez (t_CH_later N hN s0 v1 i0)
  obtain ⟨h_y_1, h_y_2, fr_y_2⟩ := zok_at ey (t_Mo_later N hN s1 v1 i1)
  exact ⟨z, y, ez, ey, ha, ⟨(IS.mg _ h_z_2 i0), (IS.mg _ h_y_2 i1), i3, i5, i6, iE, i7, i8, i9, i10, i11, i12, i14, i15, i16⟩, r1.fr (Fr.mg fr_z_2 Fr.rf) (Fr.mg fr_y_2 Fr.rf) rfl rfl rfl rfl, hn, r3.fr (Fr.mg fr_y_2 Fr.rf) rfl, r4.fr (Fr.mg fr_y_2 Fr.rf) rfl rfl, r5.fr (Fr.mg fr_y_2 Fr.rf) rfl rfl, r6.fr (Fr.mg fr_z_2 Fr.rf) (Fr.mg fr_y_2 Fr.rf) rfl rfl rfl⟩
theorem w_sets {N : Nat} (hN : 50000000 ≤ N) {s0 s1 s2 s3 s4 s5 s6 s7 s8 s9 s10 s11 s12 s14 s15 s16 : zSt} (v1 : Int32) (v2 : Int32) (v3 : Int32) (v4 : Int32) (hi : INV s0 s1 s2 s3 s5 s6 s7 s8 s9 s10 s11 s12 s14 s15 s16) : ∃ z y, CH_sets N s0 s9 s6 s10 s8 v1 v2 v3 v4 = some z ∧ Mo_sets N s1 v1 v2 v3 v4 = some y ∧ True ∧ INV s0 (zmg [0, 10, 11, 12, 13, 14, 15, 18, 20, 21, 33, 56, 57, 59, 60, 62, 63] y.2 s1) s2 s3 s5 s6 s7 s8 z.2.1 z.2.2 s11 s12 s14 s15 s16 := by
  obtain ⟨⟨i0, i1, i3, i5, i6, iE, i7, i8, i9, i10, i11, i12, i14, i15, i16⟩, r⟩ := hi
  obtain ⟨z, ez, hz⟩ := t_CH_sets N hN s0 s9 s6 s10 s8 v1 v2 v3 v4 i0 i9 i6 i10 i8 iE
  obtain ⟨h_z_1, h_z_2_1, fr_z_2_1, h_z_2_2, fr_z_2_2⟩ := hz
  obtain ⟨y, ey, hy⟩ := t_Mo_sets N hN s1 v1 v2 v3 v4 i1
  obtain ⟨h_y_1, h_y_2, fr_y_2⟩ := hy
  exact ⟨z, y, ez, ey, trivial, ⟨i0, (IS.mg _ h_y_2 i1), i3, i5, i6, iE, i7, i8, h_z_2_1, h_z_2_2, i11, i12, i14, i15, i16⟩, r.fr (Fr.rf (W := []) (A := [])) (Fr.mg fr_y_2 Fr.rf) rfl rfl rfl rfl⟩
theorem w_spring {N : Nat} (hN : 50000000 ≤ N) {s0 s1 s2 s3 s4 s5 s6 s7 s8 s9 s10 s11 s12 s14 s15 s16 : zSt} (v1 : Int32) (v2 : Int32) (v3 : Int32) (v4 : Int32) (v5 : Int32) (hi : INV s0 s1 s2 s3 s5 s6 s7 s8 s9 s10 s11 s12 s14 s15 s16) : ∃ z y, CH_spring N s0 s8 s7 v1 v2 v3 v4 v5 = some z ∧ Mo_spring N s1 v1 v2 v3 v4 v5 = some y ∧ z.1 = y.1 ∧ INV s0 (zmg [0, 10, 11, 12, 13, 14, 15, 16, 17, 18, 19, 20, 21, 33, 39, 40, 41, 42, 43, 44, 45, 46, 49, 56, 57, 59, 60, 62, 63] y.2 s1) s2 s3 s5 s6 z.2 s8 s9 s10 s11 s12 s14 s15 s16 := by
  obtain ⟨⟨i0, i1, i3, i5, i6, iE, i7, i8, i9, i10, i11, i12, i14, i15, i16⟩, r⟩ := hi
  obtain ⟨z, y, ez, ey, ha⟩ := spring_ans (N := N) (s0 := s0) (s7 := s7) (v1 := v1) (v2 := v2) (v3 := v3) (v4 := v4) (v5 := v5) r.2.2.2.1
  obtain ⟨h_z_1, h_z_2, fr_z_2⟩ := zok_at ez (t_CH_spring N hN s0 s8 s7 v1 v2 v3 v4 v5 i0 i8 i7)
  obtain ⟨h_y_1, h_y_2, fr_y_2⟩ := zok_at ey (t_Mo_spring N hN s1 v1 v2 v3 v4 v5 i1)
  exact ⟨z, y, ez, ey, ha, ⟨i0, (IS.mg _ h_y_2 i1), i3, i5, i6, iE, h_z_2, i8, i9, i10, i11, i12, i14, i15, i16⟩, r.fr (Fr.rf (W := []) (A := [])) (Fr.mg fr_y_2 Fr.rf) rfl rfl rfl rfl⟩
theorem w_parted {N : Nat} (hN : 50000000 ≤ N) {s0 s1 s2 s3 s4 s5 s6 s7 s8 s9 s10 s11 s12 s14 s15 s16 : zSt} (v1 : Int32) (v2 : Int32) (v3 : Int32) (hi : INV s0 s1 s2 s3 s5 s6 s7 s8 s9 s10 s11 s12 s14 s15 s16) : ∃ z y, CH_parted N s0 s7 s9 s6 s8 v1 v2 v3 = some z ∧ Mo_parted N s1 v1 v2 v3 = some y ∧ True ∧ INV s0 s1 s2 s3 s5 s6 z.2.1 s8 z.2.2 s10 s11 s12 s14 s15 s16 := by
  obtain ⟨⟨i0, i1, i3, i5, i6, iE, i7, i8, i9, i10, i11, i12, i14, i15, i16⟩, r⟩ := hi
  obtain ⟨z, ez, hz⟩ := t_CH_parted N hN s0 s7 s9 s6 s8 v1 v2 v3 i0 i7 i9 i6 i8 iE
  obtain ⟨h_z_1, h_z_2_1, fr_z_2_1, h_z_2_2, fr_z_2_2⟩ := hz
  obtain ⟨y, ey, hy⟩ := t_Mo_parted N hN s1 v1 v2 v3 i1
  exact ⟨z, y, ez, ey, trivial, ⟨i0, i1, i3, i5, i6, iE, h_z_2_1, i8, h_z_2_2, i10, i11, i12, i14, i15, i16⟩, r⟩
theorem w_came {N : Nat} (hN : 50000000 ≤ N) {s0 s1 s2 s3 s4 s5 s6 s7 s8 s9 s10 s11 s12 s14 s15 s16 : zSt} (v1 : Int32) (v2 : Int32) (v3 : Int32) (v4 : Int32) (v5 : Int32) (hi : INV s0 s1 s2 s3 s5 s6 s7 s8 s9 s10 s11 s12 s14 s15 s16) : ∃ z y, CH_came N s0 s8 s6 v1 v2 v3 v4 v5 = some z ∧ Mo_came N s1 v1 v2 v3 v4 v5 = some y ∧ True ∧ INV s0 s1 s2 s3 s5 s6 s7 s8 s9 s10 s11 s12 s14 s15 s16 := by
  obtain ⟨⟨i0, i1, i3, i5, i6, iE, i7, i8, i9, i10, i11, i12, i14, i15, i16⟩, r⟩ := hi
  obtain ⟨z, ez, hz⟩ := t_CH_came N hN s0 s8 s6 v1 v2 v3 v4 v5 i0 i8 i6
  obtain ⟨y, ey, hy⟩ := t_Mo_came N hN s1 v1 v2 v3 v4 v5 i1
  exact ⟨z, y, ez, ey, trivial, ⟨i0, i1, i3, i5, i6, iE, i7, i8, i9, i10, i11, i12, i14, i15, i16⟩, r⟩
theorem w_cracked {N : Nat} (hN : 50000000 ≤ N) {s0 s1 s2 s3 s4 s5 s6 s7 s8 s9 s10 s11 s12 s14 s15 s16 : zSt} (v1 : Int32) (hi : INV s0 s1 s2 s3 s5 s6 s7 s8 s9 s10 s11 s12 s14 s15 s16) : ∃ z y, CH_cracked N s0 s8 s11 s6 v1 = some z ∧ Mo_cracked N s1 v1 = some y ∧ True ∧ INV (zmg [0] z.2.1 s0) (zmg [0, 10, 11, 12, 13, 14, 15, 17, 18, 19, 20, 33, 41, 43, 44, 49, 59, 60, 62, 63] y.2 s1) s2 s3 s5 s6 s7 s8 s9 s10 z.2.2 s12 s14 s15 s16 := by
  obtain ⟨⟨i0, i1, i3, i5, i6, iE, i7, i8, i9, i10, i11, i12, i14, i15, i16⟩, r⟩ := hi
  obtain ⟨z, ez, hz⟩ := t_CH_cracked N hN s0 s8 s11 s6 v1 i0 i8 i11 i6
  obtain ⟨h_z_1, h_z_2_1, fr_z_2_1, h_z_2_2, fr_z_2_2⟩ := hz
  obtain ⟨y, ey, hy⟩ := t_Mo_cracked N hN s1 v1 i1
  obtain ⟨h_y_1, h_y_2, fr_y_2⟩ := hy
  exact ⟨z, y, ez, ey, trivial, ⟨(IS.mg _ h_z_2_1 i0), (IS.mg _ h_y_2 i1), i3, i5, i6, iE, i7, i8, i9, i10, h_z_2_2, i12, i14, i15, i16⟩, r.fr (Fr.mg fr_z_2_1 Fr.rf) (Fr.mg fr_y_2 Fr.rf) rfl rfl rfl rfl⟩
theorem w_first {N : Nat} (hN : 50000000 ≤ N) {s0 s1 s2 s3 s4 s5 s6 s7 s8 s9 s10 s11 s12 s14 s15 s16 : zSt} (v1 : Int32) (hi : INV s0 s1 s2 s3 s5 s6 s7 s8 s9 s10 s11 s12 s14 s15 s16) : ∃ z y, CH_first N s0 s8 s11 s6 v1 = some z ∧ Mo_first N s1 v1 = some y ∧ True ∧ INV s0 (zmg [0, 10, 11, 12, 13, 14, 15, 17, 18, 19, 20, 33, 41, 43, 44, 49, 57, 59, 60, 62, 63] y.2 s1) s2 s3 s5 s6 s7 s8 s9 s10 (zmg [6] z.2 s11) s12 s14 s15 s16 := by
  obtain ⟨⟨i0, i1, i3, i5, i6, iE, i7, i8, i9, i10, i11, i12, i14, i15, i16⟩, r⟩ := hi
  obtain ⟨z, ez, hz⟩ := t_CH_first N hN s0 s8 s11 s6 v1 i0 i8 i11 i6
  obtain ⟨h_z_1, h_z_2, fr_z_2⟩ := hz
  obtain ⟨y, ey, hy⟩ := t_Mo_first N hN s1 v1 i1
  obtain ⟨h_y_1, h_y_2, fr_y_2⟩ := hy
  exact ⟨z, y, ez, ey, trivial, ⟨i0, (IS.mg _ h_y_2 i1), i3, i5, i6, iE, i7, i8, i9, i10, (IS.mg _ h_z_2 i11), i12, i14, i15, i16⟩, r.fr (Fr.rf (W := []) (A := [])) (Fr.mg fr_y_2 Fr.rf) rfl rfl rfl rfl⟩
theorem w_dealt {N : Nat} (hN : 50000000 ≤ N) {s0 s1 s2 s3 s4 s5 s6 s7 s8 s9 s10 s11 s12 s14 s15 s16 : zSt} (v1 : Int32) (hi : INV s0 s1 s2 s3 s5 s6 s7 s8 s9 s10 s11 s12 s14 s15 s16) : ∃ z y, CH_dealt N s0 s8 s12 v1 = some z ∧ Mo_dealt N s1 v1 = some y ∧ z.1 = y.1 ∧ INV (zmg [0] z.2.1 s0) (zmg [0, 10, 11, 12, 13, 14, 15, 16, 18, 19, 20, 33, 39, 40, 41, 42, 43, 44, 45, 46, 49, 62, 63] y.2 s1) s2 s3 s5 s6 s7 s8 s9 s10 s11 z.2.2 s14 s15 s16 := by
  obtain ⟨⟨i0, i1, i3, i5, i6, iE, i7, i8, i9, i10, i11, i12, i14, i15, i16⟩, r⟩ := hi
  obtain ⟨z, y, ez, ey, ha⟩ := dealt_ans (N := N) (v1 := v1) hN i0 i1 i8 i12 r.2.2.2.1
  obtain ⟨h_z_1, h_z_2_1, fr_z_2_1, h_z_2_2, fr_z_2_2⟩ := zok_at ez (t_CH_dealt N hN s0 s8 s12 v1 i0 i8 i12)
  obtain ⟨h_y_1, h_y_2, fr_y_2⟩ := zok_at ey (t_Mo_dealt N hN s1 v1 i1)
  exact ⟨z, y, ez, ey, ha, ⟨(IS.mg _ h_z_2_1 i0), (IS.mg _ h_y_2 i1), i3, i5, i6, iE, i7, i8, i9, i10, i11, h_z_2_2, i14, i15, i16⟩, r.fr (Fr.mg fr_z_2_1 Fr.rf) (Fr.mg fr_y_2 Fr.rf) rfl rfl rfl rfl⟩
theorem w_lies {N : Nat} (hN : 50000000 ≤ N) {s0 s1 s2 s3 s4 s5 s6 s7 s8 s9 s10 s11 s12 s14 s15 s16 : zSt} (v1 : Int32) (hi : INV s0 s1 s2 s3 s5 s6 s7 s8 s9 s10 s11 s12 s14 s15 s16) : ∃ z y, CH_lies N s0 v1 = some z ∧ Mo_lies N s1 v1 = some y ∧ True ∧ INV s0 s1 s2 s3 s5 s6 s7 s8 s9 s10 s11 s12 s14 s15 s16 := by
  obtain ⟨⟨i0, i1, i3, i5, i6, iE, i7, i8, i9, i10, i11, i12, i14, i15, i16⟩, r⟩ := hi
  obtain ⟨z, ez, hz⟩ := t_CH_lies N hN s0 v1 i0
  obtain ⟨y, ey, hy⟩ := t_Mo_lies N hN s1 v1 i1
  exact ⟨z, y, ez, ey, trivial, ⟨i0, i1, i3, i5, i6, iE, i7, i8, i9, i10, i11, i12, i14, i15, i16⟩, r⟩
theorem w_fresh {N : Nat} (hN : 50000000 ≤ N) {s0 s1 s2 s3 s4 s5 s6 s7 s8 s9 s10 s11 s12 s14 s15 s16 : zSt} (v1 : Int32) (v2 : Int32) (hi : INV s0 s1 s2 s3 s5 s6 s7 s8 s9 s10 s11 s12 s14 s15 s16) : ∃ z y, CH_fresh N s0 s8 v1 v2 = some z ∧ Mo_fresh N s1 v1 v2 = some y ∧ z = y ∧ INV s0 s1 s2 s3 s5 s6 s7 s8 s9 s10 s11 s12 s14 s15 s16 := by
  obtain ⟨⟨i0, i1, i3, i5, i6, iE, i7, i8, i9, i10, i11, i12, i14, i15, i16⟩, r⟩ := hi
  obtain ⟨z, y, ez, ey, ha⟩ := fresh_ans (N := N) (s0 := s0) (v1 := v1) (v2 := v2) hN i0 i1 i8 r.2.2.2.1
  exact ⟨z, y, ez, ey, ha, ⟨i0, i1, i3, i5, i6, iE, i7, i8, i9, i10, i11, i12, i14, i15, i16⟩, r⟩
theorem w_image {N : Nat} (hN : 50000000 ≤ N) {s0 s1 s2 s3 s4 s5 s6 s7 s8 s9 s10 s11 s12 s14 s15 s16 : zSt} (v1 : Int32) (hi : INV s0 s1 s2 s3 s5 s6 s7 s8 s9 s10 s11 s12 s14 s15 s16) : ∃ z y, CH_image N s0 s14 s5 s15 s16 v1 = some z ∧ Mo_image N s1 v1 = some y ∧ z.1 = y.1 ∧ INV (zmg [0, 10] z.2.1 s0) (zmg [0, 10, 11, 12, 13, 14, 15, 16, 17, 18, 19, 20, 21, 39, 40, 41, 42, 43, 44, 45, 46, 49, 56, 57, 59, 60] y.2 s1) s2 s3 s5 s6 s7 s8 s9 s10 s11 s12 z.2.2.1 z.2.2.2.1 z.2.2.2.2 := by
  obtain ⟨⟨i0, i1, i3, i5, i6, iE, i7, i8, i9, i10, i11, i12, i14, i15, i16⟩, r⟩ := hi
  obtain ⟨r1, r2, r3, r4, r5, r6⟩ := r
  obtain ⟨z, y, ez, ey, ha, hn⟩ := image_two (N := N) (v := v1) (by omega) r5 r6
  obtain ⟨h_z_1, h_z_2_1, fr_z_2_1, h_z_2_2_1, fr_z_2_2_1, h_z_2_2_2_1, fr_z_2_2_2_1, h_z_2_2_2_2, fr_z_2_2_2_2⟩ := zok_at ez (t_CH_image N hN s0 s14 s5 s15 s16 v1 i0 i14 i5 i15 i16)
  obtain ⟨h_y_1, h_y_2, fr_y_2⟩ := zok_at ey (t_Mo_image N hN s1 v1 i1)
  exact ⟨z, y, ez, ey, ha, ⟨(IS.mg _ h_z_2_1 i0), (IS.mg _ h_y_2 i1), i3, i5, i6, iE, i7, i8, i9, i10, i11, i12, h_z_2_2_1, h_z_2_2_2_1, h_z_2_2_2_2⟩, r1.fr (Fr.mg fr_z_2_1 Fr.rf) (Fr.mg fr_y_2 Fr.rf) rfl rfl rfl rfl, TimR.fr r2 (Fr.mg fr_z_2_1 Fr.rf) (Fr.mg fr_y_2 Fr.rf) rfl rfl, r3.fr (Fr.mg fr_y_2 Fr.rf) rfl, r4.fr (Fr.mg fr_y_2 Fr.rf) rfl rfl, r5.fr (Fr.mg fr_y_2 Fr.rf) rfl rfl, hn.cg rfl (by rw [zA_mg, if_neg (by decide)]) (by rw [zA_mg, if_neg (by decide)])⟩
theorem w_back {N : Nat} (hN : 50000000 ≤ N) {s0 s1 s2 s3 s4 s5 s6 s7 s8 s9 s10 s11 s12 s14 s15 s16 : zSt} (v1 : Int32) (hi : INV s0 s1 s2 s3 s5 s6 s7 s8 s9 s10 s11 s12 s14 s15 s16) : ∃ z y, CH_back N s0 s5 s14 s15 s16 v1 = some z ∧ Mo_back N s1 v1 = some y ∧ z.1 = y.1 ∧ INV s0 (zmg [0, 10, 11, 12, 13, 14, 15, 16, 17, 18, 19, 20, 21, 39, 40, 41, 42, 43, 44, 45, 46, 49, 56, 57, 59, 60] y.2 s1) s2 s3 z.2 s6 s7 s8 s9 s10 s11 s12 s14 s15 s16 := by
  obtain ⟨⟨i0, i1, i3, i5, i6, iE, i7, i8, i9, i10, i11, i12, i14, i15, i16⟩, r⟩ := hi
  obtain ⟨r1, r2, r3, r4, r5, r6⟩ := r
  obtain ⟨z, y, ez, ey, ha, hn⟩ := back_two (N := N) (v := v1) (by omega) r5 r6
  obtain ⟨h_z_1, h_z_2, fr_z_2⟩ := zok_at ez (t_CH_back N hN s0 s5 s14 s15 s16 v1 i0 i5 i14 i15 i16)
  obtain ⟨h_y_1, h_y_2, fr_y_2⟩ := zok_at ey (t_Mo_back N hN s1 v1 i1)
  exact ⟨z, y, ez, ey, ha, ⟨i0, (IS.mg _ h_y_2 i1), i3, h_z_2, i6, iE, i7, i8, i9, i10, i11, i12, i14, i15, i16⟩, r1.fr (Fr.rf (W := []) (A := [])) (Fr.mg fr_y_2 Fr.rf) rfl rfl rfl rfl, TimR.fr r2 (Fr.rf (W := []) (A := [])) (Fr.mg fr_y_2 Fr.rf) rfl rfl, r3.fr (Fr.mg fr_y_2 Fr.rf) rfl, r4.fr (Fr.mg fr_y_2 Fr.rf) rfl rfl, hn.cg rfl rfl (by rw [zA_mg, if_neg (by decide)]) rfl, r6.fr (Fr.rf (W := []) (A := [])) (Fr.mg fr_y_2 Fr.rf) rfl rfl rfl⟩
theorem w_about {N : Nat} (hN : 50000000 ≤ N) {s0 s1 s2 s3 s4 s5 s6 s7 s8 s9 s10 s11 s12 s14 s15 s16 : zSt} (v1 : Int32) (hi : INV s0 s1 s2 s3 s5 s6 s7 s8 s9 s10 s11 s12 s14 s15 s16) : ∃ z y, CH_about N s0 s6 s5 s8 v1 = some z ∧ Mo_about N s1 v1 = some y ∧ True ∧ INV s0 s1 s2 s3 s5 s6 s7 s8 s9 s10 s11 s12 s14 s15 s16 := by
  obtain ⟨⟨i0, i1, i3, i5, i6, iE, i7, i8, i9, i10, i11, i12, i14, i15, i16⟩, r⟩ := hi
  obtain ⟨z, ez, hz⟩ := t_CH_about N hN s0 s6 s5 s8 v1 i0 i6 i5 i8
  obtain ⟨y, ey, hy⟩ := t_Mo_about N hN s1 v1 i1
  exact ⟨z, y, ez, ey, trivial, ⟨i0, i1, i3, i5, i6, iE, i7, i8, i9, i10, i11, i12, i14, i15, i16⟩, r⟩
