theorem CT.next {T : Nat → Nat} {n j so pl nu nx : Nat} {w : Int64} (h : CT T n j so pl w nu nx) (h0 : so ≠ 0) (h3 : so ≠ 3) : ∃ so2 pl2 w2 nu2 nx2, CT T n (j + 1) so2 pl2 w2 nu2 nx2 := by
  obtain ⟨a, c1, c2, c3⟩ := h
  have hnx := (c3.nx c2).1
  obtain ⟨so2, pl2, w2, nu2, nx2, ht⟩ := Tk.ex (T := T) hnx
  exact ⟨so2, pl2, w2, nu2, nx2, nx, ⟨a, so, pl, w, nu, c1, c3, h0, h3⟩, hnx, ht⟩
theorem inN_congr {f g : Nat → Int64} {c : Nat} {w : Int64} (h : ∀ i, i < c → f i = g i) : inN f c w ↔ inN g c w :=
  ⟨fun ⟨i, h1, h2⟩ => ⟨i, h1, by rw [← h i h1]; exact h2⟩, fun ⟨i, h1, h2⟩ => ⟨i, h1, by rw [h i h1]; exact h2⟩⟩
theorem Valley_addHerd_eq {N h : Nat} {V : zSt} {w : Int64} (e : zI V 0 = nI h) (hh : h < 3) : Valley_addHerd N V w = some (zpI (zsA (zsB V 1 (vp_updL (zB V 1) h w)) 2 (upd (zA V 2) h 0)) 0 (nI (h + 1))) := by
  unfold Valley_addHerd Valley_addHerd_b0
  rw [e, zck_in (vp_in_nI hh (by decide)), zck_in (vp_in_nI hh (by decide)), nI_clamp (by omega), nI_1]
theorem vp_updL_at (f : Nat → Int64) (k : Nat) (x : Int64) (j : Nat) : vp_updL f k x j = if j = k then x else f j := rfl
theorem herd_line {N : Nat} (hN : 1600 ≤ N) {T : Nat → Nat} {n m j pl0 nu0 nx0 h b k e d : Nat} {w0 : Int64} {M V sT sR : zSt} (hLR : LR M V h b k e d) (hh : h < 3) (hM : moC M T n j 1 pl0 w0 nu0 nx0) (h2 : zI M 2 = 0) (hR : rdR sR T n m) (hE : m = 205 ∨ rdE T n m) (hT3 : zI sT 3 = nI (j + 1)) (hj : j + 3 ≤ 205) :
    ∃ c z1 z, Teller_tellHerd N sT V sR = some c ∧ Mo_readHerd N M = some z1 ∧ Mo_readLine_b132 N (zmg [11, 12, 13, 14, 15] z1 M) = some z ∧ LO T n (j + 3) M (fun z v => LR z v (h + 1) b k e d ∧ KP [4, 5, 6, 7, 10, 13, 14] V v) sT c z := by
  obtain ⟨⟨l1, l2, l3, l4, l5, l6⟩, ⟨v1, v2, v3, v4, v5⟩, ⟨b1, b2, b3, b4, b5, b6⟩, ⟨n1, n2⟩, ⟨n3, n4⟩, ⟨n5, n6⟩, ⟨m1, m2, m3⟩⟩ := hLR
  obtain ⟨so, pl, w, nu, nx, hc⟩ := hM.2.1.next (by decide) (by decide)
  obtain ⟨ty, tn⟩ := Teller_takeNewName_ok (N := N) hN (f := zB V 1) (c := h) (n1 := 3) hR (hc.lt (by omega) hE) hc hT3 (by omega) (by decide)
  obtain ⟨my, mn⟩ := Mo_newName_ok (N := N) hN (b := 0) (c := h) hM h2 (by decide) (by decide) hc (by omega)
  have hin : inN (fun i => zB M 10 (0 + i)) h w ↔ inN (zB V 1) h w := inN_congr (fun i hi => by rw [Nat.zero_add]; exact n1 i hi)
  unfold Teller_tellHerd Teller_tellHerd_b0 Mo_readHerd Mo_readHerd_b0
  rw [v1, if_pos ((zltL (k := 3) (by omega) (by decide)).mpr hh), l1]
  by_cases hok : so = 1 ∧ ¬ isKw w ∧ ¬ inN (zB V 1) h w
  · obtain ⟨t2, e2, g1, g2⟩ := ty hok
    obtain ⟨y, ey, y1, y2, y3, y4, y5, so2, pl2, w2, nu2, nx2, y6⟩ := my ⟨hok.1, hok.2.1, fun q => hok.2.2 (hin.mp q)⟩
    have ey : Mo_newName N M 0 (nI h) = some y := ey
    rw [e2, ey]
    simp only [zbs]
    rw [if_neg (by decide), if_pos y5]
    have hc2 := y6.2.1
    obtain ⟨sy, sn⟩ := Teller_take_ok (N := N) hR (hc2.lt (by omega) hE) hc2 g1.1 4 (by decide) (by decide)
    have y22 : zI y 22 = nI h := by rw [y1 22 (by decide) (by decide) (by decide) (by decide) (by decide) (by decide)]; exact l1
    have ym : moC (zmg [11, 12, 13, 14, 15] (zpI y 22 (zI y 22 + 1)) M) T n (j + 2) so2 pl2 w2 nu2 nx2 := moC.mg (z := zpI y 22 (zI y 22 + 1)) y6 y2
    have yL : mL M (zmg [11, 12, 13, 14, 15] (zpI y 22 (zI y 22 + 1)) M) := ⟨fun i hi => by
      show zI (zpI y 22 _) i = _
      rw [zI_pI, if_neg (by omega)]
      exact y1 i (by omega) (by omega) (by omega) (by omega) (by omega) (by omega), y1 1 (by decide) (by decide) (by decide) (by decide) (by decide) (by decide), by
      show zA (zmg _ (zpI y 22 _) M) 0 = _
      rw [zA_mg, if_neg (by decide), zA_pI, y2]⟩
    obtain ⟨ey1, ey2⟩ := Mo_lineEnd_ok (N := N) hN ym y5
    by_cases h59 : so2 = 59
    · obtain ⟨t5, e5, q1, q2, q3, q4⟩ := sy ((zcode_s hc2.so).mpr h59)
      obtain ⟨z, ez, z1, z2, z3⟩ := ey1 h59
      have e5 : Teller_take N t2 sR 4 = some (1, t5) := e5
      rw [e5]
      simp only [zbs]
      rw [if_neg (by decide), Valley_addHerd_eq v1 hh, g2]
      simp only [zbs]
      refine ⟨_, _, z, rfl, rfl, ez, yL.trans z1.mL, Or.inr ⟨rfl, q1.1, q1.2.1.trans g1.2.1, q1.2.2.trans g1.2.2, z2, z3, ?_, ⟨fun q => absurd q (by decide), fun _ => rfl, fun _ => rfl, fun _ => rfl, fun _ => rfl, fun _ => rfl, fun _ => rfl, fun _ => rfl⟩⟩⟩
      have hI : ∀ i, 9 ≤ i → zI z i = if i = 22 then nI (h + 1) else zI M i := by
        intro i hi
        rw [z1.1 i (by omega) (by omega) (by omega) (by omega) (by omega) (by omega)]
        show zI (zpI y 22 (zI y 22 + 1)) i = _
        rw [zI_pI]
        by_cases e : i = 22
        · rw [if_pos e, if_pos e, y22, nI_1]
        · rw [if_neg e, if_neg e]
          exact y1 i (by omega) (by omega) (by omega) (by omega) (by omega) (by omega)
      have hA : zA z = zA M := by
        rw [z1.2.1]
        exact zmg_A (z := zpI y 22 (zI y 22 + 1)) y2
      have hB : ∀ l, zB z 10 l = if l = h then w else zB M 10 l := by
        intro l
        rw [z1.2.2]
        show zB (zmg _ (zpI y 22 _) M) 10 l = _
        rw [zB_mg, if_neg (by decide)]
        have := y4 l
        rw [Nat.zero_add] at this
        exact this
      have hV1 : ∀ l, zB (zpI (zsA (zsB V 1 (vp_updL (zB V 1) h w)) 2 (upd (zA V 2) h 0)) 0 (nI (h + 1))) 1 l = if l = h then w else zB V 1 l := fun l => rfl
      refine ⟨⟨by rw [hI _ (by decide)]; rfl, by rw [hI _ (by decide)]; exact l2, by rw [hI _ (by decide)]; exact l3, by rw [hI _ (by decide)]; exact l4, by rw [hI _ (by decide)]; exact l5, by rw [hI _ (by decide)]; exact l6⟩, ⟨rfl, v2, v3, v4, v5⟩, ⟨by omega, b2, b3, b4, b5, b6⟩, ⟨fun i hi => ?_, fun i l hi hl he => ?_⟩, ⟨fun i hi => ?_, n4⟩, ⟨fun i hi => ?_, n6⟩, ⟨m1, m2, ?_⟩⟩
      · rw [hB, hV1]
        by_cases e : i = h
        · rw [if_pos e, if_pos e]
        · rw [if_neg e, if_neg e]; exact n1 i (by omega)
      · rw [hV1, hV1] at he
        by_cases ei : i = h
        · by_cases el : l = h
          · omega
          · rw [if_pos ei, if_neg el] at he
            exact absurd ⟨l, by omega, he.symm⟩ hok.2.2
        · by_cases el : l = h
          · rw [if_neg ei, if_pos el] at he
            exact absurd ⟨i, by omega, he⟩ hok.2.2
          · rw [if_neg ei, if_neg el] at he
            exact n2 i l (by omega) (by omega) he
      · rw [hB, if_neg (by omega), hA]; exact n3 i hi
      · rw [hB, if_neg (by omega), hA]; exact n5 i hi
      · have e := nI_toInt (n := h + 1) (by omega)
        exact IS.pI 0 _ (IS.sA 2 _ (IS.sB 1 _ m3) (fun _ => tr _)) (show (0 : Int) ≤ (nI (h + 1)).toInt ∧ (nI (h + 1)).toInt ≤ 3 by omega)
    · obtain ⟨t5, e5, q1⟩ := sn (fun q => h59 ((zcode_s hc2.so).mp q))
      obtain ⟨z, ez, z1, z2⟩ := ey2 h59
      have e5 : Teller_take N t2 sR 4 = some (0, t5) := e5
      rw [e5]
      simp only [zbs]
      rw [if_pos trivial]
      exact ⟨_, _, z, rfl, rfl, ez, yL.trans z1.mL, Or.inl ⟨rfl, m3, _, _, zfl_pos (by decide), zfl_le (by decide), q1, z2⟩⟩
  · obtain ⟨t2, e2, g1⟩ := tn hok
    obtain ⟨y, ey, y1, y2⟩ := mn (fun q => hok ⟨q.1, q.2.1, fun r => q.2.2 (hin.mpr r)⟩)
    have p0 : 0 < zfl so (if so = 1 ∧ ¬ isKw w then 3 else 2) := zfl_pos (by split <;> decide)
    have p5 : zfl so (if so = 1 ∧ ¬ isKw w then 3 else 2) ≤ 5 := zfl_le (by split <;> decide)
    have ey : Mo_newName N M 0 (nI h) = some y := ey
    rw [e2, ey]
    simp only [zbs]
    rw [if_pos trivial, if_neg (y2.ne p0 p5).2]
    have y3 : mF (zmg [11, 12, 13, 14, 15] y M) _ _ := y2
    exact ⟨_, _, _, rfl, rfl, Mo_lineEnd_F y3 p0 p5, y1.mg.mL, Or.inl ⟨rfl, m3, _, _, p0, p5, g1, y3⟩⟩
