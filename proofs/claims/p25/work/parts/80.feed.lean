/-! feed -/
/-! (bp_b: pasted from the kit's laws) -/
theorem bp_b (x : Int32) : x.toInt8.toInt32 &&& 255 = x &&& 255 := by
  apply Int32.toBitVec_inj.mp
  rw [Int32.toBitVec_and, Int32.toBitVec_and, Int8.toBitVec_toInt32, Int32.toBitVec_toInt8]
  apply BitVec.eq_of_getLsbD_eq
  intro i hi
  rw [BitVec.getLsbD_and, BitVec.getLsbD_and]
  have hm : ∀ i < 32, 8 ≤ i → (255 : Int32).toBitVec.getLsbD i = false := by decide
  rcases Nat.lt_or_ge i 8 with z | z
  · rw [BitVec.getLsbD_signExtend, BitVec.getLsbD_signExtend, if_pos z, if_pos hi]
    simp only [z, hi, decide_true, Bool.true_and]
  · rw [hm i hi z]; simp
theorem byte_two (x : Int32) : ∃ t : Nat, t < 256 ∧ x &&& 255 = nI t ∧ vp_nar .byte (Int8.toInt32 (Int32.toInt8 x)) = sb_b t := by
  refine ⟨x.toBitVec.toNat % 2 ^ 8, Nat.mod_lt _ (by decide), pk_and x 8 (by decide), ?_⟩
  rw [vp_nar_byte, Int8.toInt8_toInt32]
  exact (sc_eq (by rw [Int8.toInt8_toInt32]) (Nat.mod_lt _ (by decide))).mpr ((bp_b x).trans (pk_and x 8 (by decide)))
/-- the tape so far, on both sides -/
def TpR (s M : zSt) (n : Nat) : Prop := ∃ T : Nat → Nat, (∀ i, T i < 256) ∧ zI s 1 = nI n ∧ zI M 1 = nI n ∧ (∀ i, i < 1500 → zA s 0 i = sb_b (T i)) ∧ ∀ i, i < 1500 → zA M 0 i = nI (T i)
theorem TpR.put {s M : zSt} {n : Nat} (h : TpR s M n) (hn : n < 1500) (x : Int32) : TpR (zpI (zsA s 0 (upd (zA s 0) n (vp_nar .byte (Int8.toInt32 (Int32.toInt8 x))))) 1 (nI (n + 1))) (zpI (zsA M 0 (upd (zA M 0) n (x &&& 255))) 1 (nI (n + 1))) (n + 1) := by
  obtain ⟨T, h1, h2, h3, h4, h5⟩ := h
  obtain ⟨t, t1, t2, t3⟩ := byte_two x
  refine ⟨fun i => if i = n then t else T i, fun i => ?_, rfl, rfl, fun i hi => ?_, fun i hi => ?_⟩
  · show (if i = n then t else T i) < 256
    split
    · exact t1
    · exact h1 i
  · rw [zA_pI, zA_sA, if_pos rfl, upd_at]
    show _ = sb_b (if i = n then t else T i)
    by_cases q : i = n
    · rw [if_pos q, if_pos q]; exact t3
    · rw [if_neg q, if_neg q]; exact h4 i hi
  · rw [zA_pI, zA_sA, if_pos rfl, upd_at]
    show _ = nI (if i = n then t else T i)
    by_cases q : i = n
    · rw [if_pos q, if_pos q]; exact t2
    · rw [if_neg q, if_neg q]; exact h5 i hi
/-- what a feed leaves alone -/
def FdK (s z : zSt) : Prop := (∀ k, ¬ k = 1 → zI z k = zI s k) ∧ ∀ k, ¬ k = 0 → zA z k = zA s k
theorem FdK.trans {a b c : zSt} (h : FdK a b) (k : FdK b c) : FdK a c := ⟨fun i hi => (k.1 i hi).trans (h.1 i hi), fun i hi => (k.2 i hi).trans (h.2 i hi)⟩
theorem FdK.put {s : zSt} {f : Nat → Int32} {v : Int32} : FdK s (zpI (zsA s 0 f) 1 v) := ⟨fun k hk => by rw [zI_pI, if_neg hk]; rfl, fun k hk => by rw [zA_pI, zA_sA, if_neg hk]⟩
theorem four_two {N : Nat} (v : Int32) : ∀ (r : Nat) (f g n : Nat) (s M : zSt) (x : Int32), r < f → r < g → n + r ≤ 1500 → x.toInt = 8 * (r : Int) - 8 → r ≤ 4 → TpR s M n →
    ∃ z y, CH_tapeFour_h3 N v f s x = some z ∧ Mo_four_h3 N v g M x = some y ∧ TpR z y (n + r) ∧ FdK s z ∧ FdK M y := by
  have e0 : (0 : Int32).toInt = 0 := by decide
  have e8 : ((-8) : Int32).toInt = -8 := by decide
  intro r
  induction r with
  | zero =>
    intro f g n s M x hf hg hn hx _ hT
    obtain ⟨f', rfl⟩ : ∃ f', f = f' + 1 := ⟨f - 1, by omega⟩
    obtain ⟨g', rfl⟩ : ∃ g', g = g' + 1 := ⟨g - 1, by omega⟩
    have hx0 : x < 0 := by rw [Int32.lt_iff_toInt_lt]; omega
    rw [CH_tapeFour_h3_s, Mo_four_h3_s]
    unfold CH_tapeFour_b3 Mo_four_b3
    rw [if_pos hx0, if_pos hx0]
    exact ⟨s, M, rfl, rfl, hT, ⟨fun _ _ => rfl, fun _ _ => rfl⟩, ⟨fun _ _ => rfl, fun _ _ => rfl⟩⟩
  | succ r ih =>
    intro f g n s M x hf hg hn hx hr hT
    obtain ⟨f', rfl⟩ : ∃ f', f = f' + 1 := ⟨f - 1, by omega⟩
    obtain ⟨g', rfl⟩ : ∃ g', g = g' + 1 := ⟨g - 1, by omega⟩
    have hx0 : ¬ x < 0 := by rw [Int32.lt_iff_toInt_lt]; omega
    have hs := hT.choose_spec.2.1
    have hm := hT.choose_spec.2.2.1
    have hnx := tadd x (-8) (by omega) (by omega)
    rw [CH_tapeFour_h3_s, Mo_four_h3_s]
    unfold CH_tapeFour_b3 Mo_four_b3
    rw [if_neg hx0, if_neg hx0, hs, hm, if_neg (fun q => absurd ((zleR (k := 1500) (by omega) (by decide)).mp q) (by omega)), zck_in (vp_in_nI (by omega) (by decide)), zck_in (vp_in_nI (by omega) (by decide)), nI_clamp (by omega), nI_1]
    obtain ⟨z, y, ez, ey, hT2, k1, k2⟩ := ih f' g' (n + 1) _ _ (x + (-8)) (by omega) (by omega) (by omega) (by omega) (by omega) (hT.put (by omega) (v >>> (x &&& 31)))
    refine ⟨z, y, ez, ey, ?_, FdK.put.trans k1, FdK.put.trans k2⟩
    rw [show n + (r + 1) = n + 1 + r by omega]
    exact hT2
theorem tape4_two {N : Nat} (hN : 1600 ≤ N) (v : Int32) {n : Nat} {s M : zSt} (hn : n + 4 ≤ 1500) (hT : TpR s M n) : ∃ z y, CH_tapeFour N s v = some z ∧ Mo_four N M v = some y ∧ TpR z y (n + 4) ∧ FdK s z ∧ FdK M y := by
  unfold CH_tapeFour CH_tapeFour_b0 Mo_four Mo_four_b0
  exact four_two v 4 N N n s M 24 (by omega) (by omega) hn (by decide) (by decide) hT
theorem feed_two {N : Nat} (hN : 1600 ≤ N) (a b c d e : Int32) {s M : zSt} (hT : TapeR s M) : ∃ z y, CH_feed N s a b c d e = some z ∧ Mo_feed N M a b c d e = some y ∧ z.1 = y.1 ∧ TapeR z.2 y.2 ∧ FdK s z.2 ∧ FdK M y.2 := by
  obtain ⟨T, n, hn, h1, h2, h3, h4, h5⟩ := hT
  unfold CH_feed CH_feed_b0 Mo_feed Mo_feed_b0
  rw [h2, h3, show (nI n + 20 : Int32) = nI (n + 20) from nI_add n 20]
  by_cases q : n ≤ 1480
  · rw [if_pos ((zleL (k := 1480) (by omega) (by decide)).mpr q), if_pos ((zleL (k := 1500) (by omega) (by decide)).mpr (by omega))]
    obtain ⟨z1, y1, ez1, ey1, t1, k1, l1⟩ := tape4_two (N := N) hN a (n := n) (by omega) ⟨T, h1, h2, h3, h4, h5⟩
    obtain ⟨z2, y2, ez2, ey2, t2, k2, l2⟩ := tape4_two (N := N) hN b (by omega) t1
    obtain ⟨z3, y3, ez3, ey3, t3, k3, l3⟩ := tape4_two (N := N) hN c (by omega) t2
    obtain ⟨z4, y4, ez4, ey4, t4, k4, l4⟩ := tape4_two (N := N) hN d (by omega) t3
    obtain ⟨z5, y5, ez5, ey5, t5, k5, l5⟩ := tape4_two (N := N) hN e (by omega) t4
    rw [ez1, ey1]
    simp only [zbs]
    rw [ez2, ey2]
    simp only [zbs]
    rw [ez3, ey3]
    simp only [zbs]
    rw [ez4, ey4]
    simp only [zbs]
    rw [ez5, ey5]
    simp only [zbs]
    obtain ⟨T', x1, x2, x3, x4, x5⟩ := t5
    exact ⟨_, _, rfl, rfl, x2.trans x3.symm, ⟨T', _, by omega, x1, x2, x3, x4, x5⟩, k1.trans (k2.trans (k3.trans (k4.trans k5))), l1.trans (l2.trans (l3.trans (l4.trans l5)))⟩
  · rw [if_neg (fun r => q ((zleL (k := 1480) (by omega) (by decide)).mp r)), if_neg (fun r => absurd ((zleL (k := 1500) (by omega) (by decide)).mp r) (by omega))]
    exact ⟨_, _, rfl, rfl, rfl, ⟨T, n, hn, h1, h2, h3, h4, h5⟩, ⟨fun _ _ => rfl, fun _ _ => rfl⟩, ⟨fun _ _ => rfl, fun _ _ => rfl⟩⟩
theorem end_two {N : Nat} (v : Int32) {s M : zSt} (hT : TapeR s M) : ∃ z y, CH_end N s v = some z ∧ Mo_end N M v = some y ∧ z.1 = y.1 ∧ TapeR z.2 y.2 ∧ FdK s z.2 ∧ FdK M y.2 := by
  obtain ⟨T, n, hn, h1, h2, h3, h4, h5⟩ := hT
  unfold CH_end CH_end_b0 Mo_end Mo_end_b0
  rw [CH_within_eq, h2, h3]
  simp only [zbs]
  rcases zcases v with hv | ⟨m, hm, rfl⟩
  · rw [if_pos hv, if_pos rfl, if_pos hv]
    exact ⟨_, _, rfl, rfl, rfl, ⟨T, n, hn, h1, h2, h3, h4, h5⟩, ⟨fun _ _ => rfl, fun _ _ => rfl⟩, ⟨fun _ _ => rfl, fun _ _ => rfl⟩⟩
  · rw [if_neg (nI_pos hm), if_neg (nI_pos hm)]
    by_cases q : m ≤ n
    · rw [if_neg (fun r => absurd ((nI_ltI (by omega) hm).mp r) (by omega)), if_neg (by decide), if_pos ((nI_leI hm (by omega)).mpr q)]
      exact ⟨_, _, rfl, rfl, rfl, ⟨T, m, by omega, h1, rfl, rfl, h4, h5⟩, ⟨fun k hk => by rw [zI_pI, if_neg hk], fun _ _ => rfl⟩, ⟨fun k hk => by rw [zI_pI, if_neg hk], fun _ _ => rfl⟩⟩
    · rw [if_pos ((nI_ltI (by omega) hm).mpr (by omega)), if_pos rfl, if_neg (fun r => q ((nI_leI hm (by omega)).mp r))]
      exact ⟨_, _, rfl, rfl, rfl, ⟨T, n, hn, h1, h2, h3, h4, h5⟩, ⟨fun _ _ => rfl, fun _ _ => rfl⟩, ⟨fun _ _ => rfl, fun _ _ => rfl⟩⟩
