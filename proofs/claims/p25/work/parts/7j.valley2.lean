theorem I_Mo_mk {s : zSt} (h1 : (0 : Int) ≤ (zI s 1).toInt ∧ (zI s 1).toInt ≤ 1500) (h28 : (0 : Int) ≤ (zI s 28).toInt ∧ (zI s 28).toInt ≤ 3) (h29 : (0 : Int) ≤ (zI s 29).toInt ∧ (zI s 29).toInt ≤ 11) (h30 : (0 : Int) ≤ (zI s 30).toInt ∧ (zI s 30).toInt ≤ 9) (h31 : (0 : Int) ≤ (zI s 31).toInt ∧ (zI s 31).toInt ≤ 2) (h32 : (0 : Int) ≤ (zI s 32).toInt ∧ (zI s 32).toInt ≤ 4) (h47 : (0 : Int) ≤ (zI s 47).toInt ∧ (zI s 47).toInt ≤ 40) (h48 : (0 : Int) ≤ (zI s 48).toInt ∧ (zI s 48).toInt ≤ 100000) (h50 : (0 : Int) ≤ (zI s 50).toInt ∧ (zI s 50).toInt ≤ 1) (h51 : (0 : Int) ≤ (zI s 51).toInt ∧ (zI s 51).toInt ≤ 3) (h53 : (0 : Int) ≤ (zI s 53).toInt ∧ (zI s 53).toInt ≤ 3) (h58 : (0 : Int) ≤ (zI s 58).toInt ∧ (zI s 58).toInt ≤ 9) (h61 : (0 : Int) ≤ (zI s 61).toInt ∧ (zI s 61).toInt ≤ 64)
    (a21 : ∀ i, (0 : Int) ≤ (zA s 21 i).toInt ∧ (zA s 21 i).toInt ≤ 10) (a41 : ∀ i, (0 : Int) ≤ (zA s 41 i).toInt ∧ (zA s 41 i).toInt ≤ 3) (a49 : ∀ i, (0 : Int) ≤ (zA s 49 i).toInt ∧ (zA s 49 i).toInt ≤ 1) (a56 : ∀ i, (0 : Int) ≤ (zA s 56 i).toInt ∧ (zA s 56 i).toInt ≤ 11) (a62 : ∀ i, (0 : Int) ≤ (zA s 62 i).toInt ∧ (zA s 62 i).toInt ≤ 1) : I_Mo s := by
  refine ⟨fun k => ?_, fun k i => ?_⟩
  · by_cases e1 : k = 1
    · subst e1; exact h1
    by_cases e28 : k = 28
    · subst e28; exact h28
    by_cases e29 : k = 29
    · subst e29; exact h29
    by_cases e30 : k = 30
    · subst e30; exact h30
    by_cases e31 : k = 31
    · subst e31; exact h31
    by_cases e32 : k = 32
    · subst e32; exact h32
    by_cases e47 : k = 47
    · subst e47; exact h47
    by_cases e48 : k = 48
    · subst e48; exact h48
    by_cases e50 : k = 50
    · subst e50; exact h50
    by_cases e51 : k = 51
    · subst e51; exact h51
    by_cases e53 : k = 53
    · subst e53; exact h53
    by_cases e58 : k = 58
    · subst e58; exact h58
    by_cases e61 : k = 61
    · subst e61; exact h61
    unfold rg_Mo
    rw [if_neg e1, if_neg e28, if_neg e29, if_neg e30, if_neg e31, if_neg e32, if_neg e47, if_neg e48, if_neg e50, if_neg e51, if_neg e53, if_neg e58, if_neg e61]
    exact tr _
  · by_cases e21 : k = 21
    · subst e21; exact a21 i
    by_cases e41 : k = 41
    · subst e41; exact a41 i
    by_cases e49 : k = 49
    · subst e49; exact a49 i
    by_cases e56 : k = 56
    · subst e56; exact a56 i
    by_cases e62 : k = 62
    · subst e62; exact a62 i
    unfold ra_Mo
    rw [if_neg e21, if_neg e41, if_neg e49, if_neg e56, if_neg e62]
    exact tr _
/-- the tape, on both sides -/
def TapeR (s0 M : zSt) : Prop := ∃ (T : Nat → Nat) (n : Nat), n ≤ 1500 ∧ (∀ i, T i < 256) ∧ zI s0 1 = nI n ∧ zI M 1 = nI n ∧ (∀ i, i < 1500 → zA s0 0 i = sb_b (T i)) ∧ ∀ i, i < 1500 → zA M 0 i = nI (T i)
/-- the land, on both sides -/
def LandR (M V : zSt) : Prop := ∃ h b k e, (zI M 28 = nI h ∧ zI M 29 = nI b ∧ zI M 30 = nI k ∧ zI M 31 = nI (b - k) ∧ zI M 32 = nI e) ∧ (zI V 0 = nI h ∧ zI V 3 = nI b ∧ zI V 9 = nI k ∧ zI V 12 = nI e ∧ ∀ i, i < b → 1 ≤ (zA V 6 i).toInt) ∧ (h ≤ 3 ∧ b ≤ 11 ∧ k ≤ 9 ∧ k ≤ b ∧ b - k ≤ 2 ∧ e ≤ 4) ∧
  (∀ i, i < b → zA M 16 i = zA V 5 i ∧ zA M 17 i = zA V 6 i ∧ zA M 18 i = zA V 7 i ∧ zA M 20 i = zA V 10 i) ∧ (∀ i, i < e → zA M 19 i = zA V 14 i) ∧ (zI V 8 = nI (bset (isB V) b) ∧ k = bcnt (isB V) b ∧ BL M (isB V) b)
/-- all in earnest, on both sides -/
def NowR (M E : zSt) : Prop := (zI M 34 = zI E 0 ∧ zI M 35 = zI E 1 ∧ zI M 36 = zI E 2 ∧ zI M 37 = zI E 3 ∧ zI M 38 = zI E 4) ∧ ∀ i, i < 11 → zA M 33 i = zA E 5 i
def FltR (s2 M : zSt) : Prop := zI s2 0 = zI M 2 ∧ zI s2 1 = zI M 3
/-- a fault leaves the rest of the reference alone -/
def vB (M y : zSt) : Prop := (∀ k, 28 ≤ k → zI y k = zI M k) ∧ ∀ k, (16 ≤ k ∧ k ≤ 21) ∨ k = 33 ∨ k = 62 → zA y k = zA M k
theorem valley_two {N : Nat} (hN : 1600 ≤ N) {s0 s2 s3 s4 s5 s6 s7 M : zSt} (hT : TapeR s0 M) (hV : I_Valley s3) (hE : I_Earnest s5) (hI : I_Mo M) :
    ∃ c y, CH_valley N s0 s2 s3 s4 (zA s0 0) s5 s6 s7 = some c ∧ Mo_valley N M = some y ∧ c.1 = y.1 ∧ (zI y.2 1 = 0 ∧ zA y.2 0 = zA M 0 ∧ zI y.2 48 = zI M 48 ∧ FltR c.2.2.1 y.2) ∧ I_Valley c.2.2.2.1 ∧
      ((c.2.2.2.2.2.2.2.2 = false ∧ c.2.1 = zpI s0 1 0 ∧ c.2.2.2.2.2.1 = s5 ∧ c.2.2.2.2.2.2.1 = s6 ∧ c.2.2.2.2.2.2.2.1 = s7 ∧ vB M y.2) ∨
       (c.2.2.2.2.2.2.2.2 = true ∧ c.2.1 = zpI (zpI (zpI s0 1 0) 11 0) 7 0 ∧ c.2.2.2.2.2.2.1 = zpI s6 0 0 ∧ c.2.2.2.2.2.2.2.1 = zpI s7 0 0 ∧ LandR y.2 c.2.2.2.1 ∧ NowR y.2 c.2.2.2.2.2.1 ∧ I_Earnest c.2.2.2.2.2.1 ∧
          (zI y.2 47 = 0 ∧ zI y.2 50 = 0 ∧ zI y.2 58 = 0 ∧ zI y.2 51 = zI M 51 ∧ zI y.2 53 = zI M 53 ∧ zI y.2 61 = zI M 61) ∧ (∀ x, (0 : Int) ≤ (zA y.2 21 x).toInt ∧ (zA y.2 21 x).toInt ≤ 10) ∧ ∀ x, zA y.2 62 x = if x < 3 then 0 else zA M 62 x)) := by
  obtain ⟨T, n, hn, hT2, t1, t2, t3, t4⟩ := hT
  obtain ⟨c, z, ec, ez, ⟨k1, k2, k3⟩, hP⟩ := tell_two (N := N) (s1 := s2) (s2 := s3) (s3 := s4) hN hn hT2 t3 t4 t2 hV
  unfold CH_valley CH_valley_b0 Mo_valley Mo_valley_b0
  rw [t1, ec, ez]
  simp only [zbs]
  rcases hP with ⟨c1, c2, F, pl, p0, p5, tf, mf⟩ | ⟨c1, c2, c3, c4, c5, h, b, k, e, d, hL⟩
  · rw [if_pos c1, if_neg (mf.ne p0 p5).1]
    refine ⟨_, _, rfl, rfl, rfl, ⟨k2, ?_, k1 48 (by decide), tf.1.trans mf.1.symm, tf.2.trans mf.2.symm⟩, c2, Or.inl ⟨rfl, rfl, rfl, rfl, rfl, k1, fun k hk => ?_⟩⟩
    · rw [zA_mg, if_neg (by decide)]; exact k3
    · rw [zA_mg, if_pos (by simp; omega)]
  · obtain ⟨⟨l1, l2, l3, l4, l5, l6⟩, ⟨v1, v2, v3, v4, v5⟩, ⟨b1, b2, b3, b4, b5, b6⟩, _, ⟨n3, n4⟩, ⟨n5, _⟩, ⟨m1, m2, m3⟩⟩ := hL
    have hk9 : bcnt (isB c.2.2.1) b ≤ 9 := by omega
    have ef := Arrays_fill_eq (N := N) (n0 := 11) (f := zA s5 5) (v := 0) (by decide) (by omega)
    have eb : Earnest_begin N s5 c.2.2.1 = some (zsA (zpI (zpI (zpI (zpI (zpI s5 0 (zI c.2.2.1 8)) 1 0) 2 0) 3 0) 4 0) 5 (fun j => if j < 11 then 0 else zA s5 5 j)) := by
      unfold Earnest_begin Earnest_begin_b0
      rw [ef]
      simp only [zbs]
    rw [if_neg (by rw [c1]; decide), if_pos (by rw [c4]; decide), eb]
    simp only [zbs]
    generalize hg : zpI (zpI (zpI (zpI (zpI (zmg [16, 17, 18, 19, 20, 21, 33, 62] z M) 28 (zI z 22)) 29 (zI z 23)) 31 (zI z 25)) 32 (zI z 26)) 30 0 = G
    have GI : ∀ i, zI G i = if i = 30 then 0 else if i = 32 then nI e else if i = 31 then nI (b - k) else if i = 29 then nI b else if i = 28 then nI h else zI z i := fun i => by
      rw [← hg, l1, l2, l4, l5]
      simp only [zI_pI, zI_mg]
    have GA : ∀ k, ¬ ([16, 17, 18, 19, 20, 21, 33, 62].contains k = true) → zA G k = zA z k := fun k hk => by
      rw [← hg]
      simp only [zA_pI]
      rw [zA_mg, if_neg hk]
    have GB : ∀ k, [16, 17, 18, 19, 20, 21, 33, 62].contains k = true → zA G k = zA M k := fun k hk => by
      rw [← hg]
      simp only [zA_pI]
      rw [zA_mg, if_pos hk]
    obtain ⟨y, ey, y1, w1, w2, ⟨w3, w4⟩, w5, w6, w7, w8⟩ := lay_bells (N := N) (z := G) (p := isB c.2.2.1) (b := b) (P := fun y => y.1 = zI G 29 ∧ vG G y.2 (isB c.2.2.1) b) (by omega) (by rw [GI]; rfl) hk9 (fun x hx => by
        rw [GA 13 (by decide), (n3 x hx).2.2.2.1]; exact isB_iff m3) (fun s hv => lay_ears hN (by omega) hk9 N 0 s s (by omega) (by omega) hv rfl (fun _ _ => rfl) (fun x hx => absurd hx (by omega))) N 0 G (by omega) (by omega)
        ⟨fun _ _ => rfl, ⟨by rw [GI, if_pos rfl, if_pos (by omega)]; rfl, fun x hx => absurd hx (by omega), fun x => by rw [GB 21 (by decide)]; exact hI.2 21 x⟩, fun x hx => absurd hx (by omega), fun _ _ => rfl⟩
    obtain ⟨w30, w34, w35, w36, w37, w38, w47, w58, w50⟩ := w2
    have ey : Mo_valley_h52 N N G 0 = some y := ey
    rw [ey]
    refine ⟨_, _, rfl, rfl, ?_, ⟨?_, ?_, ?_, ?_, ?_⟩, m3, Or.inr ⟨rfl, rfl, rfl, rfl, ⟨h, b, k, e, ⟨?_, ?_, ?_, ?_, ?_⟩, ⟨v1, v2, v3, v4, n4.2⟩, ⟨b1, by omega, b2, b3, b4, b5⟩, fun i hi => ?_, fun i hi => ?_, ⟨m1, m2, w3⟩⟩, ⟨⟨?_, w35, w36, w37, w38⟩, fun i hi => ?_⟩, ?_, ⟨w47, w50, w58, ?_, ?_, ?_⟩, w4, fun x => ?_⟩⟩
    · rw [y1, GI]; exact v2
    · rw [w1 1 (by decide), GI]; exact k2
    · rw [w8 0 (by decide), GA 0 (by decide)]; exact k3
    · rw [w1 48 (by decide), GI]; exact k1 48 (by decide)
    · rw [w1 2 (by decide), GI]; exact c2.trans c4.symm
    · rw [w1 3 (by decide), GI]; exact c3.trans c5.symm
    · rw [w1 28 (by decide), GI]; rfl
    · rw [w1 29 (by decide), GI]; rfl
    · rw [w30, ← m2]
    · rw [w1 31 (by decide), GI]; rfl
    · rw [w1 32 (by decide), GI]; rfl
    · obtain ⟨a16, a17, a18, a20, _⟩ := w5 i (by omega)
      obtain ⟨_, x5, x6, x7, x10⟩ := n3 i hi
      rw [a16, a17, a18, a20, GA 11 (by decide), GA 12 (by decide), GA 13 (by decide), GA 15 (by decide)]
      exact ⟨x5, x6, x7, x10⟩
    · rw [w6 i (by omega), GA 14 (by decide)]; exact (n5 i hi).2
    · rw [w34]; exact m1.symm
    · rw [(w5 i hi).2.2.2.2, zA_sA, if_pos rfl, if_pos hi]
    · have e0 : (0 : Int32).toInt = 0 := by decide
      refine IS.sA 5 _ (IS.pI 4 0 (IS.pI 3 0 (IS.pI 2 0 (IS.pI 1 0 (IS.pI 0 _ hE (tr _)) (tr _)) ?_) ?_) ?_) ?_
      · exact show (0 : Int) ≤ (0 : Int32).toInt ∧ (0 : Int32).toInt ≤ 99 by omega
      · exact show (0 : Int) ≤ (0 : Int32).toInt ∧ (0 : Int32).toInt ≤ 20 by omega
      · exact show (0 : Int) ≤ (0 : Int32).toInt ∧ (0 : Int32).toInt ≤ 200 by omega
      · intro i
        show (0 : Int) ≤ (if i < 11 then (0 : Int32) else zA s5 5 i).toInt ∧ (if i < 11 then (0 : Int32) else zA s5 5 i).toInt ≤ 2
        by_cases q : i < 11
        · rw [if_pos q]; omega
        · rw [if_neg q]; exact hE.2 5 i
    · rw [w1 51 (by decide), GI]; exact k1 51 (by decide)
    · rw [w1 53 (by decide), GI]; exact k1 53 (by decide)
    · rw [w1 61 (by decide), GI]; exact k1 61 (by decide)
    · rw [w7 x, GB 62 (by decide)]
