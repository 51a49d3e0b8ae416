/-! all lines -/
theorem LR_tok {M V : zSt} {h b k e d : Nat} (hL : LR M V h b k e d) : tok h b k e d ≤ 204 := by
  obtain ⟨_, _, ⟨b1, b2, b3, b4, b5, b6⟩, _⟩ := hL
  unfold tok
  omega
theorem isAtEnd_eq {N : Nat} {T : Nat → Nat} {n m j so pl nu nx : Nat} {w : Int64} {sT sR : zSt} (hR : rdR sR T n m) (hj : j < m) (hc : CT T n j so pl w nu nx) (h3 : zI sT 3 = nI j) : Teller_isAtEnd N sT sR = some (if so = 0 then 1 else 0) := by
  obtain ⟨r0, rm, r3⟩ := hR
  obtain ⟨a1, so1, pl1, w1, nu1, nx1, d1, d2, d3, d4, d5, d6, d7, d8⟩ := r3 j hj
  obtain ⟨e1, e2, e3, e4, e5⟩ := CT.uniq ⟨a1, d1, d2, d3⟩ hc
  subst e1
  have hz5 := zcode_lt so1
  unfold Teller_isAtEnd Teller_isAtEnd_b0
  rw [h3, r0, if_neg (fun q => absurd ((nI_leI (by omega) (by omega)).mp q) (by omega)), zck_in (vp_in_nI (by omega) (by decide)), nI_clamp (by omega), d4]
  by_cases q : so1 = 0
  · rw [if_pos q, if_pos (by rw [zcode_0.mpr q]; rfl)]
  · rw [if_neg q, if_neg (fun r => q (zcode_0.mp ((zeqL (k := 0) (by omega) (by decide)).mp r)))]
/-- the outcome of all lines -/
def tlP (M sT : zSt) (c : Int32 × zSt × zSt × zSt) (z : zSt) : Prop :=
  mL M z ∧ ((c.1 = 0 ∧ I_Valley c.2.2.1 ∧ ∃ F pl, 0 < F ∧ F ≤ 5 ∧ tF c.2.1 F pl ∧ mF z F pl) ∨
  (c.1 = 1 ∧ zI c.2.1 0 = zI sT 0 ∧ zI c.2.1 1 = zI sT 1 ∧ zI z 2 = 0 ∧ zI z 3 = -1 ∧ ∃ h b k e d, LR z c.2.2.1 h b k e d))
theorem tell_loop {N : Nat} (hN : 1600 ≤ N) {T : Nat → Nat} {n m : Nat} {sR : zSt} {f3 : Nat → Int32} (hR : rdR sR T n m) (hE : m = 205 ∨ rdE T n m) : ∀ (f g i h b k e d so pl nu nx : Nat) (w : Int64) (M V sT : zSt), LR M V h b k e d → moC M T n (tok h b k e d) so pl w nu nx → zI M 2 = 0 → zI sT 3 = nI (tok h b k e d) → i ≤ tok h b k e d → 205 - tok h b k e d < f → 206 - tok h b k e d < g →
    ∃ c z, Teller_tell_h29 N f3 f sT V sR (nI i) = some c ∧ Mo_readAll_h62 N g M = some z ∧ tlP M sT c z := by
  intro f
  induction f with
  | zero => intro g i h b k e d so pl nu nx w M V sT _ _ _ _ _ hf; exact absurd hf (by omega)
  | succ f ih =>
    intro g i h b k e d so pl nu nx w M V sT hLR hM h2 h3 hi hf hg
    have ht := LR_tok hLR
    obtain ⟨g', rfl⟩ : ∃ g', g = g' + 1 := ⟨g - 1, by omega⟩
    have hc := hM.2.1
    have hjm := hc.lt (by omega) hE
    have hso := hc.so
    have hm5 := hR.2.1
    rw [Teller_tell_h29_s, Mo_readAll_h62_s]
    unfold Teller_tell_b29 Mo_readAll_b62
    rw [hR.1, if_neg (fun q => absurd ((nI_leI (by omega) (by omega)).mp q) (by omega)), isAtEnd_eq hR hjm hc h3, if_pos h2]
    simp only [zbs]
    by_cases q : so = 0
    · rw [if_pos q, if_neg (by decide), if_pos (by rw [hM.2.2.1, q]; rfl)]
      exact ⟨_, _, rfl, rfl, ⟨fun _ _ => rfl, rfl, rfl⟩, Or.inr ⟨rfl, rfl, rfl, h2, hM.2.2.2.2.2.2.2, h, b, k, e, d, hLR⟩⟩
    · rw [if_neg q, if_pos rfl, if_neg (fun r => q ((zeqL (k := 0) (by omega) (by decide)).mp (hM.2.2.1 ▸ r)))]
      obtain ⟨c, z, ec, ez, hm, hP⟩ := line_two (N := N) hN hLR hM h2 hR hE h3
      rw [ec, ez]
      simp only [zbs]
      rcases hP with ⟨c1, c2, F, P, p0, p5, tf, mf⟩ | ⟨c1, c2, c3, c4, h', b', k', e', d', hlt, c5, ⟨so', pl', w', nu', nx', c6⟩, c7⟩
      · rw [if_pos c1]
        obtain ⟨g'', rfl⟩ : ∃ g'', g' = g'' + 1 := ⟨g' - 1, by omega⟩
        rw [Mo_readAll_h62_s]
        unfold Mo_readAll_b62
        rw [if_neg (mf.ne p0 p5).2]
        exact ⟨_, _, rfl, rfl, hm, Or.inl ⟨rfl, c2, F, P, p0, p5, tf, mf⟩⟩
      · rw [if_neg (by rw [c1]; decide), nI_1]
        have ht' := LR_tok c7
        obtain ⟨c', z', ec', ez', hm', hP'⟩ := ih g' (i + 1) h' b' k' e' d' so' pl' nu' nx' w' z c.2.2 c.2.1 c7 c6 c4 c5 (by omega) (by omega) (by omega)
        refine ⟨c', z', ec', ez', hm.trans hm', ?_⟩
        rcases hP' with hP' | ⟨x1, x2, x3, x4⟩
        · exact Or.inl hP'
        · exact Or.inr ⟨x1, x2.trans c2, x3.trans c3, x4⟩
/-- the whole text, on both sides -/
theorem tell_two {N : Nat} (hN : 1600 ≤ N) {T : Nat → Nat} {n : Nat} {s1 s2 s3 M : zSt} {f4 : Nat → Int32} (hn : n ≤ 1500) (hT : ∀ i, T i < 256) (hf : ∀ i, i < 1500 → f4 i = sb_b (T i)) (hA : ∀ i, i < 1500 → zA M 0 i = nI (T i)) (h1 : zI M 1 = nI n) (hV : I_Valley s2) :
    ∃ c z, Teller_tell N s1 s2 s3 f4 (nI n) = some c ∧ Mo_readAll N M = some z ∧ ((∀ k, 28 ≤ k → zI z k = zI M k) ∧ zI z 1 = 0 ∧ zA z 0 = zA M 0) ∧
      ((c.1 = 0 ∧ I_Valley c.2.2.1 ∧ ∃ F pl, 0 < F ∧ F ≤ 5 ∧ tF c.2.1 F pl ∧ mF z F pl) ∨ (c.1 = 1 ∧ zI c.2.1 0 = 0 ∧ zI c.2.1 1 = -1 ∧ zI z 2 = 0 ∧ zI z 3 = -1 ∧ ∃ h b k e d, LR z c.2.2.1 h b k e d)) := by
  obtain ⟨zr, er, m, _, hR, hm0, hE⟩ := Reader_read_spec (N := N) (s := s3) hN hn hT hf
  generalize hM0 : zpI (zpI (zpI (zpI (zpI (zpI (zpI (zpI (zpI (zpI (zpI M 5 (zI M 1)) 1 0) 4 0) 2 0) 3 (-1)) 22 0) 23 0) 24 0) 25 0) 26 0) 27 0 = M0
  have I0 : ∀ i, zI M0 i = if i = 27 then 0 else if i = 26 then 0 else if i = 25 then 0 else if i = 24 then 0 else if i = 23 then 0 else if i = 22 then 0 else if i = 3 then -1 else if i = 2 then 0 else if i = 4 then 0 else if i = 1 then 0 else if i = 5 then nI n else zI M i := fun i => by
    rw [← hM0, ← h1]
    simp only [zI_pI]
  have A0 : zA M0 = zA M := by rw [← hM0]; rfl
  have T0 : moT M0 T n := ⟨hn, by rw [I0]; rfl, hT, by rw [A0]; exact hA⟩
  obtain ⟨y, ey, yk, so, pl, w, nu, nx, yt, y6, y7, y9, y8, y4⟩ := Mo_token_spec (N := N) (a := 0) hN T0 (by rw [I0]; rfl) (by omega)
  have ck : moC (zmg [10, 11, 12, 13, 14, 15] y M0) T n 0 so pl w nu nx := by
    refine moC.mg (z := y) ⟨T0.mv yk, ⟨0, rfl, by omega, yt⟩, y6, y7, y9, y8, y4, ?_⟩ yk.2.1
    rw [yk.1 3 (by decide) (by decide) (by decide) (by decide), I0]
    rfl
  have yi : ∀ i, ¬ i = 4 → ¬ i = 6 → ¬ i = 7 → ¬ i = 8 → zI (zmg [10, 11, 12, 13, 14, 15] y M0) i = zI M0 i := fun i a b c d => yk.1 i a b c d
  have e0 : (0 : Int32).toInt = 0 := by decide
  have hVI : I_Valley (zmg [1, 2, 4, 5, 6, 7, 10, 13, 14] (zpI (zpI (zpI (zpI (zpI (zpI s2 0 0) 3 0) 8 0) 9 0) 11 0) 12 0) s2) := by
    refine IS.mg _ (IS.pI 12 0 (IS.pI 11 0 (IS.pI 9 0 (IS.pI 8 0 (IS.pI 3 0 (IS.pI 0 0 hV ?_) ?_) ?_) ?_) ?_) ?_) hV
    · exact show (0 : Int) ≤ (0 : Int32).toInt ∧ (0 : Int32).toInt ≤ 3 by omega
    · exact show (0 : Int) ≤ (0 : Int32).toInt ∧ (0 : Int32).toInt ≤ 11 by omega
    · exact show (0 : Int) ≤ (0 : Int32).toInt ∧ (0 : Int32).toInt ≤ 2047 by omega
    · exact show (0 : Int) ≤ (0 : Int32).toInt ∧ (0 : Int32).toInt ≤ 9 by omega
    · exact show (0 : Int) ≤ (0 : Int32).toInt ∧ (0 : Int32).toInt ≤ 20 by omega
    · exact show (0 : Int) ≤ (0 : Int32).toInt ∧ (0 : Int32).toInt ≤ 4 by omega
  have L0 : LR (zmg [10, 11, 12, 13, 14, 15] y M0) (zmg [1, 2, 4, 5, 6, 7, 10, 13, 14] (zpI (zpI (zpI (zpI (zpI (zpI s2 0 0) 3 0) 8 0) 9 0) 11 0) 12 0) s2) 0 0 0 0 0 := by
    refine ⟨⟨?_, ?_, ?_, ?_, ?_, ?_⟩, ⟨rfl, rfl, rfl, rfl, rfl⟩, ⟨by omega, by omega, by omega, by omega, by omega, by omega⟩, ⟨fun i hi => absurd hi (by omega), fun i l hi => absurd hi (by omega)⟩, ⟨fun i hi => absurd hi (by omega), fun i l hi => absurd hi (by omega), fun i hi => absurd hi (by omega)⟩, ⟨fun i hi => absurd hi (by omega), fun i l hi => absurd hi (by omega)⟩, ⟨rfl, rfl, hVI⟩⟩
    all_goals
      rw [yi _ (by decide) (by decide) (by decide) (by decide), I0]
      rfl
  have z2 : zI (zmg [10, 11, 12, 13, 14, 15] y M0) 2 = 0 := by rw [yi _ (by decide) (by decide) (by decide) (by decide), I0]; rfl
  obtain ⟨c, z, ec, ez, hm, hP⟩ := tell_loop (N := N) (f3 := f4) hN hR hE N N 0 0 0 0 0 0 so pl nu nx w _ _ (zpI (zpI (zpI s1 0 0) 1 (-1)) 3 0) L0 ck z2 rfl (by omega) (by unfold tok; omega) (by unfold tok; omega)
  refine ⟨c, z, ?_, ?_, ⟨fun k hk => ?_, ?_, ?_⟩, hP⟩
  · unfold Teller_tell Teller_tell_b0 Valley_clear Valley_clear_b0
    simp only [zbs]
    rw [er]
    exact ec
  · unfold Mo_readAll Mo_readAll_b0
    rw [hM0, ey]
    exact ez
  · rw [hm.1 k hk, yi k (by omega) (by omega) (by omega) (by omega), I0]
    rw [if_neg (by omega), if_neg (by omega), if_neg (by omega), if_neg (by omega), if_neg (by omega), if_neg (by omega), if_neg (by omega), if_neg (by omega), if_neg (by omega), if_neg (by omega), if_neg (by omega)]
  · rw [hm.2.1, yi 1 (by decide) (by decide) (by decide) (by decide), I0]
    rfl
  · rw [hm.2.2, zmg_A yk.2.1, A0]
