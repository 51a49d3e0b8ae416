/-! a line of any sort -/
/-- how many tokens the lines told so far have -/
def tok (h b k e d : Nat) : Nat := 3 * h + 9 * k + 7 * (b - k) + 5 * e + 4 * d
theorem wl_n {N : Nat} {M : zSt} {v : Int64} {c : Prop} [Decidable c] {X Y : Option zSt} (h : ¬ (zI M 6 = 1 ∧ zL M 9 = v) ∨ c) : (Mo_isWord N M v).bind (fun z1 => if z1 = 0 then X else (if c then X else Y)) = X := by
  rw [Mo_isWord_eq]
  simp only [zbs]
  by_cases q : zI M 6 = 1 ∧ zL M 9 = v
  · rw [if_pos q, if_neg (by decide)]
    rcases h with h | h
    · exact absurd q h
    · rw [if_pos h]
  · rw [if_neg q, if_pos rfl]
theorem wl_y {N : Nat} {M : zSt} {v : Int64} {c : Prop} [Decidable c] {X Y : Option zSt} (q : zI M 6 = 1 ∧ zL M 9 = v) (h : ¬ c) : (Mo_isWord N M v).bind (fun z1 => if z1 = 0 then X else (if c then X else Y)) = Y := by
  rw [Mo_isWord_eq]
  simp only [zbs]
  rw [if_pos q, if_neg (by decide), if_neg h]
theorem Mo_line_F {N : Nat} {T : Nat → Nat} {n j so pl nu nx : Nat} {w : Int64} {M : zSt} (hM : moC M T n j so pl w nu nx) (h2 : zI M 2 = 0) : ∃ z, Mo_readLine_b127 N M = some z ∧ mL M z ∧ mF z (zfl so 2) pl := by
  obtain ⟨Y, eY, y1, y2, _⟩ := Mo_wrong_ok (N := N) hM h2 2
  have eY : Mo_wrong N M 2 = some Y := eY
  have y3 : mF (zmg [0, 10, 11, 12, 13, 14, 15] Y M) (zfl so 2) pl := y2
  unfold Mo_readLine_b127
  rw [eY]
  simp only [zbs]
  exact ⟨_, Mo_lineEnd_F y3 (zfl_pos (by decide)) (zfl_le (by decide)), y1.mg.mL, y3⟩
/-- a line's outcome, of any sort -/
def lnP (T : Nat → Nat) (n j : Nat) (M sT : zSt) (c : Int32 × zSt × zSt) (z : zSt) : Prop :=
  mL M z ∧ ((c.1 = 0 ∧ I_Valley c.2.2 ∧ ∃ F pl, 0 < F ∧ F ≤ 5 ∧ tF c.2.1 F pl ∧ mF z F pl) ∨
  (c.1 = 1 ∧ zI c.2.1 0 = zI sT 0 ∧ zI c.2.1 1 = zI sT 1 ∧ zI z 2 = 0 ∧ ∃ h b k e d, j < tok h b k e d ∧ zI c.2.1 3 = nI (tok h b k e d) ∧ (∃ so pl w nu nx, moC z T n (tok h b k e d) so pl w nu nx) ∧ LR z c.2.2 h b k e d))
/-- the class's line, with its kept rows -/
theorem LP_of {T : Nat → Nat} {n j j' : Nat} {M V sT t1 : zSt} {ks : List Nat} {h b k e d : Nat} {c : Int32 × zSt × zSt} {z : zSt} (hV : I_Valley V) (h0 : zI t1 0 = zI sT 0) (h1 : zI t1 1 = zI sT 1) (hj : j' = tok h b k e d) (hlt : j < j')
    (hL : LO T n j' M (fun z v => LR z v h b k e d ∧ KP ks V v) t1 c z) : ∃ c', zcb c.1 (some (c.1, c.2.1, (zmg ks c.2.2 V))) = some c' ∧ lnP T n j M sT c' z := by
  subst hj
  obtain ⟨hm, hL | hL⟩ := hL
  · obtain ⟨q1, q2, F, pl, p0, p5, f1, f2⟩ := hL
    rw [q1, zcb_in (Or.inl rfl)]
    exact ⟨_, rfl, hm, Or.inl ⟨rfl, IS.mg ks q2 hV, F, pl, p0, p5, f1, f2⟩⟩
  · obtain ⟨q1, q2, q3, q4, q5, q6, q7, q8⟩ := hL
    rw [q1, zcb_in (Or.inr rfl)]
    exact ⟨_, rfl, hm, Or.inr ⟨rfl, q3.trans h0, q4.trans h1, q5, h, b, k, e, d, hlt, q2, q6, q7.mg hV q8⟩⟩
/-- the class's refusal of a line -/
theorem ref_line {N : Nat} {V t1 : zSt} {ks : List Nat} {c : Option (Int32 × zSt × zSt)} (hc : c = (Teller_refuse N t1 2).bind (fun z10 => zcb z10.1 (some (z10.1, z10.2, V)))) : c.bind (fun z24 => zcb z24.1 (some (z24.1, z24.2.1, (zmg ks z24.2.2 V)))) = some (0, zpI (zpI t1 0 2) 1 (zI t1 4), V) := by
  rw [hc]
  unfold Teller_refuse Teller_refuse_b0
  simp only [zbs]
  rw [zcb_in (Or.inl rfl)]
  simp only [zbs]
  rw [zcb_in (Or.inl rfl), zmg_self]
theorem line_two {N : Nat} (hN : 1600 ≤ N) {T : Nat → Nat} {n m so pl nu nx h b k e d : Nat} {w : Int64} {M V sT sR : zSt} (hLR : LR M V h b k e d) (hM : moC M T n (tok h b k e d) so pl w nu nx) (h2 : zI M 2 = 0) (hR : rdR sR T n m) (hE : m = 205 ∨ rdE T n m) (hT3 : zI sT 3 = nI (tok h b k e d)) :
    ∃ c z, Teller_tellLine N sT V sR = some c ∧ Mo_readLine N M = some z ∧ lnP T n (tok h b k e d) M sT c z := by
  have hLR0 := hLR
  obtain ⟨⟨l1, l2, l3, l4, l5, l6⟩, ⟨v1, v2, v3, v4, v5⟩, ⟨b1, b2, b3, b4, b5, b6⟩, _, _, _, ⟨m1, m2, m3⟩⟩ := hLR
  have ht : tok h b k e d = 3 * h + 9 * k + 7 * (b - k) + 5 * e + 4 * d := rfl
  have hc := hM.2.1
  have hso := hc.so
  have h6 := hM.2.2.1
  have h9 := hM.2.2.2.2.1
  obtain ⟨ty, tn⟩ := Teller_take_ok (N := N) hR (hc.lt (by omega) hE) hc hT3 2 (by decide) (by decide)
  obtain ⟨zf, ezf, zfL, zfF⟩ := Mo_line_F (N := N) hM h2
  by_cases h1 : so = 1
  · subst h1
    have h6 : zI M 6 = 1 := h6
    obtain ⟨t1, e1, g1, g4, g5, _⟩ := ty rfl
    have g5 := g5 rfl
    have e1 : Teller_take N sT sR 2 = some (1, t1) := e1
    have h27 : zfl 1 2 = 2 := rfl
    rw [h27] at zfF
    have tf2 : tF (zpI (zpI t1 0 2) 1 (zI t1 4)) 2 pl := ⟨rfl, g4⟩
    have bad : ∀ c, c = some ((0 : Int32), zpI (zpI t1 0 2) 1 (zI t1 4), V) → Mo_readLine N M = Mo_readLine_b127 N M → ∃ c' z, c = some c' ∧ Mo_readLine N M = some z ∧ lnP T n (tok h b k e d) M sT c' z := fun c q1 q2 => ⟨_, zf, q1, by rw [q2]; exact ezf, zfL, Or.inl ⟨rfl, m3, 2, pl, by decide, by decide, tf2, zfF⟩⟩
    have hbad : (¬ w = 1751478884 ∨ 3 ≤ zI M 22) → (¬ w = 422607680372 ∨ 9 ≤ zI M 24) → (¬ w = 8319400174449812850 ∨ 2 ≤ zI M 25) → (¬ w = 6644082 ∨ 4 ≤ zI M 26) → (¬ w = 108187867505765 ∨ 20 ≤ zI M 27) → Mo_readLine N M = Mo_readLine_b127 N M := by
      intro a1 a2 a3 a4 a5
      have f : ∀ {v : Int64} {c : Prop}, (¬ w = v ∨ c) → (¬ (zI M 6 = 1 ∧ zL M 9 = v) ∨ c) := fun q => q.elim (fun q => Or.inl (fun r => q (h9 ▸ r.2))) Or.inr
      unfold Mo_readLine Mo_readLine_b0
      rw [wl_n (f a1)]
      unfold Mo_readLine_b25
      rw [wl_n (f a2)]
      unfold Mo_readLine_b51
      rw [wl_n (f a3)]
      unfold Mo_readLine_b76
      rw [wl_n (f a4)]
      unfold Mo_readLine_b101
      rw [wl_n (f a5)]
    unfold Teller_tellLine Teller_tellLine_b0
    rw [e1]
    simp only [zbs]
    rw [if_neg (by decide), g5]
    by_cases w1 : w = 1751478884
    · rw [zcmp_t w1]
      by_cases full : h < 3
      · obtain ⟨c, z1, z, ec, ez1, ez, hL⟩ := herd_line (N := N) hN hLR0 full hM h2 hR hE g1.1 (by omega)
        obtain ⟨c', ec', hP⟩ := LP_of (j := tok h b k e d) (sT := sT) m3 g1.2.1 g1.2.2 (show tok h b k e d + 3 = tok (h + 1) b k e d by unfold tok; omega) (by omega) hL
        refine ⟨c', z, by rw [ec]; exact ec', ?_, hP⟩
        unfold Mo_readLine Mo_readLine_b0
        rw [wl_y ⟨h6, h9.trans w1⟩ (by rw [l1]; exact fun q => absurd ((zleR (k := 3) (by omega) (by decide)).mp q) (by omega)), ez1]
        exact ez
      · refine bad _ (ref_line (N := N) ?_) (hbad (Or.inr (by rw [l1]; exact (zleR (k := 3) (by omega) (by decide)).mpr (by omega))) (Or.inl (by rw [w1]; decide)) (Or.inl (by rw [w1]; decide)) (Or.inl (by rw [w1]; decide)) (Or.inl (by rw [w1]; decide)))
        unfold Teller_tellHerd Teller_tellHerd_b0
        rw [v1, if_neg (fun q => absurd ((zltL (k := 3) (by omega) (by decide)).mp q) (by omega))]
    rw [zcmp_f w1]
    by_cases w2 : w = 422607680372
    · rw [zcmp_t w2]
      by_cases full : k < 9
      · obtain ⟨c, z1, z, ec, ez1, ez, hL⟩ := beast_line (N := N) hN hLR0 full hM h2 hR hE g1.1 (by omega)
        obtain ⟨c', ec', hP⟩ := LP_of (j := tok h b k e d) (sT := sT) m3 g1.2.1 g1.2.2 (show tok h b k e d + 9 = tok h (b + 1) (k + 1) e d by unfold tok; omega) (by omega) hL
        refine ⟨c', z, by rw [ec]; exact ec', ?_, hP⟩
        unfold Mo_readLine Mo_readLine_b0
        rw [wl_n (Or.inl (fun q => w1 (h9 ▸ q.2)))]
        unfold Mo_readLine_b25
        rw [wl_y ⟨h6, h9.trans w2⟩ (by rw [l3]; exact fun q => absurd ((zleR (k := 9) (by omega) (by decide)).mp q) (by omega)), ez1]
        exact ez
      · refine bad _ (ref_line (N := N) ?_) (hbad (Or.inl w1) (Or.inr (by rw [l3]; exact (zleR (k := 9) (by omega) (by decide)).mpr (by omega))) (Or.inl (by rw [w2]; decide)) (Or.inl (by rw [w2]; decide)) (Or.inl (by rw [w2]; decide)))
        unfold Teller_tellBeast Teller_tellBeast_b0
        rw [v3, if_neg (fun q => absurd ((zltL (k := 9) (by omega) (by decide)).mp q) (by omega))]
    rw [zcmp_f w2]
    by_cases w3 : w = 8319400174449812850
    · rw [zcmp_t w3]
      by_cases full : b - k < 2
      · obtain ⟨c, z1, z, ec, ez1, ez, hL⟩ := stranger_line (N := N) hN hLR0 full hM h2 hR hE g1.1 (by omega)
        obtain ⟨c', ec', hP⟩ := LP_of (j := tok h b k e d) (sT := sT) m3 g1.2.1 g1.2.2 (show tok h b k e d + 7 = tok h (b + 1) k e d by unfold tok; omega) (by omega) hL
        refine ⟨c', z, by rw [ec]; exact ec', ?_, hP⟩
        unfold Mo_readLine Mo_readLine_b0
        rw [wl_n (Or.inl (fun q => w1 (h9 ▸ q.2)))]
        unfold Mo_readLine_b25
        rw [wl_n (Or.inl (fun q => w2 (h9 ▸ q.2)))]
        unfold Mo_readLine_b51
        rw [wl_y ⟨h6, h9.trans w3⟩ (by rw [l4]; exact fun q => absurd ((zleR (k := 2) (by omega) (by decide)).mp q) (by omega)), ez1]
        exact ez
      · refine bad _ (ref_line (N := N) ?_) (hbad (Or.inl w1) (Or.inl w2) (Or.inr (by rw [l4]; exact (zleR (k := 2) (by omega) (by decide)).mpr (by omega))) (Or.inl (by rw [w3]; decide)) (Or.inl (by rw [w3]; decide)))
        unfold Teller_tellStranger Teller_tellStranger_b0
        rw [v2, v3, nI_subI b3 (by omega), if_neg (fun q => absurd ((zltL (k := 2) (by omega) (by decide)).mp q) (by omega))]
    rw [zcmp_f w3]
    by_cases w4 : w = 6644082
    · rw [zcmp_t w4]
      by_cases full : e < 4
      · obtain ⟨c, z1, z, ec, ez1, ez, hL⟩ := ear_line (N := N) hN hLR0 full hM h2 hR hE g1.1 (by omega)
        obtain ⟨c', ec', hP⟩ := LP_of (j := tok h b k e d) (sT := sT) m3 g1.2.1 g1.2.2 (show tok h b k e d + 5 = tok h b k (e + 1) d by unfold tok; omega) (by omega) hL
        refine ⟨c', z, by rw [ec]; exact ec', ?_, hP⟩
        unfold Mo_readLine Mo_readLine_b0
        rw [wl_n (Or.inl (fun q => w1 (h9 ▸ q.2)))]
        unfold Mo_readLine_b25
        rw [wl_n (Or.inl (fun q => w2 (h9 ▸ q.2)))]
        unfold Mo_readLine_b51
        rw [wl_n (Or.inl (fun q => w3 (h9 ▸ q.2)))]
        unfold Mo_readLine_b76
        rw [wl_y ⟨h6, h9.trans w4⟩ (by rw [l5]; exact fun q => absurd ((zleR (k := 4) (by omega) (by decide)).mp q) (by omega)), ez1]
        exact ez
      · refine bad _ (ref_line (N := N) ?_) (hbad (Or.inl w1) (Or.inl w2) (Or.inl w3) (Or.inr (by rw [l5]; exact (zleR (k := 4) (by omega) (by decide)).mpr (by omega))) (Or.inl (by rw [w4]; decide)))
        unfold Teller_tellEar Teller_tellEar_b0
        rw [v4, if_neg (fun q => absurd ((zltL (k := 4) (by omega) (by decide)).mp q) (by omega))]
    rw [zcmp_f w4]
    by_cases w5 : w = 108187867505765
    · rw [zcmp_t w5]
      by_cases full : d < 20
      · obtain ⟨c, z1, z, ec, ez1, ez, hL⟩ := beside_line (N := N) hN hLR0 full hM h2 hR hE g1.1 (by omega)
        obtain ⟨c', ec', hP⟩ := LP_of (j := tok h b k e d) (sT := sT) m3 g1.2.1 g1.2.2 (show tok h b k e d + 4 = tok h b k e (d + 1) by unfold tok; omega) (by omega) hL
        refine ⟨c', z, by rw [ec]; exact ec', ?_, hP⟩
        unfold Mo_readLine Mo_readLine_b0
        rw [wl_n (Or.inl (fun q => w1 (h9 ▸ q.2)))]
        unfold Mo_readLine_b25
        rw [wl_n (Or.inl (fun q => w2 (h9 ▸ q.2)))]
        unfold Mo_readLine_b51
        rw [wl_n (Or.inl (fun q => w3 (h9 ▸ q.2)))]
        unfold Mo_readLine_b76
        rw [wl_n (Or.inl (fun q => w4 (h9 ▸ q.2)))]
        unfold Mo_readLine_b101
        rw [wl_y ⟨h6, h9.trans w5⟩ (by rw [l6]; exact fun q => absurd ((zleR (k := 20) (by omega) (by decide)).mp q) (by omega)), ez1]
        exact ez
      · refine bad _ (ref_line (N := N) ?_) (hbad (Or.inl w1) (Or.inl w2) (Or.inl w3) (Or.inl w4) (Or.inr (by rw [l6]; exact (zleR (k := 20) (by omega) (by decide)).mpr (by omega))))
        unfold Teller_tellBeside Teller_tellBeside_b0
        rw [v5, if_neg (fun q => absurd ((zltL (k := 20) (by omega) (by decide)).mp q) (by omega))]
    rw [zcmp_f w5]
    refine bad _ ?_ (hbad (Or.inl w1) (Or.inl w2) (Or.inl w3) (Or.inl w4) (Or.inl w5))
    unfold Teller_refuse Teller_refuse_b0
    simp only [zbs]
    rw [zcb_in (Or.inl rfl)]
  · obtain ⟨t1, e1, g1⟩ := tn (fun q => h1 ((zcode_w hso).mp q))
    have e1 : Teller_take N sT sR 2 = some (0, t1) := e1
    have h6' : ¬ zI M 6 = 1 := fun z => h1 ((zeqL (k := 1) (by omega) (by decide)).mp (h6 ▸ z))
    refine ⟨(0, t1, V), zf, ?_, ?_, zfL, Or.inl ⟨rfl, m3, _, _, zfl_pos (by decide), zfl_le (by decide), g1, zfF⟩⟩
    · unfold Teller_tellLine Teller_tellLine_b0
      rw [e1]
      simp only [zbs]
      rw [if_pos trivial]
    · unfold Mo_readLine Mo_readLine_b0
      rw [wl_n (Or.inl (fun q => h6' q.1))]
      unfold Mo_readLine_b25
      rw [wl_n (Or.inl (fun q => h6' q.1))]
      unfold Mo_readLine_b51
      rw [wl_n (Or.inl (fun q => h6' q.1))]
      unfold Mo_readLine_b76
      rw [wl_n (Or.inl (fun q => h6' q.1))]
      unfold Mo_readLine_b101
      rw [wl_n (Or.inl (fun q => h6' q.1))]
      exact ezf
