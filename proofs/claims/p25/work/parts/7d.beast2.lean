theorem Mo_beast_runF {N : Nat} {M y z3 : zSt} (ey : Mo_newName N M 16 (zI M 23) = some y) (ew : Mo_want N (zmg [11, 12, 13, 15] y M) 28518 = some z3) (h : ¬ zI z3 2 ≤ 0) : Mo_readBeast N M = some (zmg [10, 11, 12, 13, 15] z3 (zmg [11, 12, 13, 15] y M)) := by
  unfold Mo_readBeast Mo_readBeast_b0
  rw [ey]
  simp only [zbs]
  rw [ew]
  simp only [zbs]
  rw [if_neg h]
theorem Mo_beast_runA {N : Nat} {M y z3 Y : zSt} {r : Int32} (ey : Mo_newName N M 16 (zI M 23) = some y) (ew : Mo_want N (zmg [11, 12, 13, 15] y M) 28518 = some z3) (h : zI z3 2 ≤ 0)
    (ef : Mo_find N (zmg [10, 11, 12, 13, 15] z3 (zmg [11, 12, 13, 15] y M)) 0 (zI z3 22) = some r) (en : Mo_isName N (zmg [10, 11, 12, 13, 15] z3 (zmg [11, 12, 13, 15] y M)) = some 0) (eY : Mo_wrong N (zmg [10, 11, 12, 13, 15] z3 (zmg [11, 12, 13, 15] y M)) 2 = some Y) : Mo_readBeast N M = Mo_readBeast_b59 N (zmg [0, 10, 11, 12, 13, 15] Y (zmg [10, 11, 12, 13, 15] z3 (zmg [11, 12, 13, 15] y M))) r := by
  unfold Mo_readBeast Mo_readBeast_b0
  rw [ey]
  simp only [zbs]
  rw [ew]
  simp only [zbs]
  rw [if_pos h, ef]
  simp only [zbs]
  rw [en]
  simp only [zbs]
  rw [if_pos trivial, eY]
  simp only [zbs]
theorem Mo_beast_runB {N : Nat} {M y z3 Y : zSt} (ey : Mo_newName N M 16 (zI M 23) = some y) (ew : Mo_want N (zmg [11, 12, 13, 15] y M) 28518 = some z3) (h : zI z3 2 ≤ 0)
    (ef : Mo_find N (zmg [10, 11, 12, 13, 15] z3 (zmg [11, 12, 13, 15] y M)) 0 (zI z3 22) = some (-1)) (en : Mo_isName N (zmg [10, 11, 12, 13, 15] z3 (zmg [11, 12, 13, 15] y M)) = some 1) (eY : Mo_wrong N (zmg [10, 11, 12, 13, 15] z3 (zmg [11, 12, 13, 15] y M)) 5 = some Y) : Mo_readBeast N M = Mo_readBeast_b59 N (zmg [0, 10, 11, 12, 13, 15] Y (zmg [10, 11, 12, 13, 15] z3 (zmg [11, 12, 13, 15] y M))) (-1) := by
  unfold Mo_readBeast Mo_readBeast_b0
  rw [ey]
  simp only [zbs]
  rw [ew]
  simp only [zbs]
  rw [if_pos h, ef]
  simp only [zbs]
  rw [en]
  simp only [zbs]
  rw [if_neg (by decide), if_neg (by decide), eY]
  simp only [zbs]
theorem Mo_beast_runG {N g : Nat} (hg : g < 1000) {M y z3 : zSt} (ey : Mo_newName N M 16 (zI M 23) = some y) (ew : Mo_want N (zmg [11, 12, 13, 15] y M) 28518 = some z3) (h : zI z3 2 ≤ 0)
    (ef : Mo_find N (zmg [10, 11, 12, 13, 15] z3 (zmg [11, 12, 13, 15] y M)) 0 (zI z3 22) = some (nI g)) (en : Mo_isName N (zmg [10, 11, 12, 13, 15] z3 (zmg [11, 12, 13, 15] y M)) = some 1) : Mo_readBeast N M = Mo_readBeast_b59 N (zmg [10, 11, 12, 13, 15] z3 (zmg [11, 12, 13, 15] y M)) (nI g) := by
  unfold Mo_readBeast Mo_readBeast_b0
  rw [ey]
  simp only [zbs]
  rw [ew]
  simp only [zbs]
  rw [if_pos h, ef]
  simp only [zbs]
  rw [en]
  simp only [zbs]
  rw [if_neg (by decide), if_pos ((zleR (k := 0) (by omega) (by decide)).mpr (by omega))]
theorem beast_line {N : Nat} (hN : 1600 ≤ N) {T : Nat → Nat} {n m j pl0 nu0 nx0 h b k e d : Nat} {w0 : Int64} {M V sT sR : zSt} (hLR : LR M V h b k e d) (hk9 : k < 9) (hM : moC M T n j 1 pl0 w0 nu0 nx0) (h2 : zI M 2 = 0) (hR : rdR sR T n m) (hE : m = 205 ∨ rdE T n m) (hT3 : zI sT 3 = nI (j + 1)) (hj : j + 9 ≤ 205) :
    ∃ c z1 z, Teller_tellBeast N sT V sR = some c ∧ Mo_readBeast N M = some z1 ∧ Mo_readLine_b132 N (zmg [14] z1 M) = some z ∧ LO T n (j + 9) M (fun z v => LR z v h (b + 1) (k + 1) e d ∧ KP [13, 14] V v) sT c z := by
  have hLR0 := hLR
  obtain ⟨⟨l1, l2, l3, l4, l5, l6⟩, ⟨v1, v2, v3, v4, v5⟩, ⟨b1, b2, b3, b4, b5, b6⟩, ⟨n1, n2⟩, ⟨n3, n4⟩, _, ⟨m1, m2, m3⟩⟩ := hLR
  have hb11 : b < 11 := by omega
  have hrun : Teller_tellBeast N sT V sR = (Teller_takeNewName N sT 11 (zB V 4) sR (nI b)).bind (fun z2 => if z2.1 = 0 then (some (0, z2.2, V)) else ((Teller_takeWord N z2.2 sR 28518).bind (fun z5 => if z5.1 = 0 then (some (0, z5.2, V)) else ((Teller_takeName N z5.2 sR).bind (fun z8 => if z8.1 = 0 then (some (0, z8.2, V)) else ((Teller_find N 3 (zB V 1) (zL z8.2 5) (nI h)).bind (fun z11 => if z11 = (-1) then ((Teller_refuse N z8.2 5).bind (fun z17 => zcb z17.1 (some (z17.1, z17.2, V)))) else ((Teller_tellBell N z8.2 V sR (zL z2.2 5) z11).bind (fun z14 => zcb z14.1 (some (z14.1, z14.2.1, (zmg [1] z14.2.2 V)))))))))))) := by
    unfold Teller_tellBeast Teller_tellBeast_b0
    rw [v2, v3, v1, if_pos ((zltL (k := 9) (by omega) (by decide)).mpr hk9)]
  rw [hrun]
  rcases new_two hN (bb := 16) (n1 := 11) hM h2 hR hE (by omega) hT3 (show b ≤ 11 by omega) (by decide) (by omega) (fun i hi => (n3 i hi).1) with ⟨t1, w, y, hkw, hin, e1, g1, g2, ey, hy⟩ | ⟨t1, y, F, P, p0, p5, e1, g1, ey, y1, y2⟩
  · have ey : Mo_newName N M 16 (zI M 23) = some y := by rw [l2]; exact ey
    have hP : mP M (zmg [11, 12, 13, 15] y M) (16 + b) w := hy.mP rfl
    obtain ⟨so2, pl2, w2, nu2, nx2, y6⟩ := hy.2.2.2.2.2
    have ym : moC (zmg [11, 12, 13, 15] y M) T n (j + 2) so2 pl2 w2 nu2 nx2 := y6.mg hy.2.1
    have y2 : zI (zmg [11, 12, 13, 15] y M) 2 = 0 := hy.2.2.2.2.1
    rw [e1]
    simp only [zbs]
    rw [if_neg (by decide)]
    have rF := fun z3 => Mo_beast_runF (z3 := z3) ey
    have rA := fun z3 Y r => Mo_beast_runA (z3 := z3) (Y := Y) (r := r) ey
    have rB := fun z3 Y => Mo_beast_runB (z3 := z3) (Y := Y) ey
    have rG := fun z3 g hg => Mo_beast_runG (z3 := z3) (g := g) hg ey
    generalize zmg [11, 12, 13, 15] y M = S0 at hP ym y2 rF rA rB rG
    have hc2 := ym.2.1
    obtain ⟨wy, wn⟩ := Teller_takeWord_ok (N := N) hR (hc2.lt (by omega) hE) hc2 g1.1 28518
    obtain ⟨xy, xn⟩ := Mo_want_ok (N := N) hN ym y2 28518
    by_cases hw : so2 = 1 ∧ w2 = 28518
    · obtain ⟨t2, e2, q2⟩ := wy hw
      obtain ⟨z3, ez3, zk, z32, so3, pl3, w3, nu3, nx3, zc⟩ := xy hw
      have hle : zI z3 2 ≤ 0 := by rw [z32]; decide
      rw [e2]
      simp only [zbs]
      rw [if_neg (by decide)]
      have SP : mP M (zmg [10, 11, 12, 13, 15] z3 S0) (16 + b) w := (hP.k zk).mg hP
      have Sm : moC (zmg [10, 11, 12, 13, 15] z3 S0) T n (j + 3) so3 pl3 w3 nu3 nx3 := zc.mgP (by rw [zk.2.1])
      have S2 : zI (zmg [10, 11, 12, 13, 15] z3 S0) 2 = 0 := z32
      have z22 : zI z3 22 = nI h := by have := SP.1 22 (by decide); rw [zI_mg] at this; rw [this]; exact l1
      have rA := fun Y r => rA z3 Y r ez3 hle
      have rB := fun Y => rB z3 Y ez3 hle
      have rG := fun g hg => rG z3 g hg ez3 hle
      rw [z22] at rA rB rG
      generalize zmg [10, 11, 12, 13, 15] z3 S0 = S at SP Sm S2 rA rB rG
      have Sb : zI S 23 = nI b := by rw [SP.1 23 (by decide)]; exact l2
      rcases herd_two (N := N) (f := zB V 1) hN Sm S2 hR hE (by omega) q2.1 b1 (fun i hi => by rw [SP.2.2.2 i, if_neg (by omega)]; exact n1 i hi) n2 with ⟨t3, g, Y, hg, e3, g3, ef, em, en, eY, hY⟩ | ⟨t3, F, P, r, Y, p0, p5, e3, g3, em, en, eY, yk, yF⟩ | ⟨t3, P, Y, e3, g3, ef, em, en, eY, yk, yF⟩
      · have rG := rG g (by omega) em en
        rw [e3]
        simp only [zbs]
        rw [if_neg (by decide), ef]
        simp only [zbs]
        rw [if_neg (nI_ne1 (by omega))]
        obtain ⟨yk, Y2, so4, pl4, w4, nu4, nx4, yc⟩ := hY
        have UP : mP M (zmg [10, 11, 12, 13, 15] Y S) (16 + b) w := (SP.k yk).mg SP
        have Um : moC (zmg [10, 11, 12, 13, 15] Y S) T n (j + 4) so4 pl4 w4 nu4 nx4 := yc.mgP (by rw [yk.2.1])
        have U2 : zI (zmg [10, 11, 12, 13, 15] Y S) 2 = 0 := Y2
        have rG : ∀ Z, Mo_readBell N (zmg [10, 11, 12, 13, 15] Y S) (nI g) = some Z → Mo_readBeast N M = some (if zI Z 2 = 0 then zpI (zmg [10] Z (zmg [10, 11, 12, 13, 15] Y S)) 24 (zI Z 24 + 1) else zmg [10] Z (zmg [10, 11, 12, 13, 15] Y S)) := by
          intro Z eZ
          rw [rG]
          unfold Mo_readBeast_b59
          rw [if_pos S2, eY]
          simp only [zbs]
          unfold Mo_readBeast_b70
          rw [eZ]
          simp only [zbs]
          split <;> rfl
        generalize zmg [10, 11, 12, 13, 15] Y S = U at UP Um U2 rG
        have Ub : zI U 23 = nI b := by rw [UP.1 23 (by decide)]; exact l2
        rcases bell_two (N := N) (V := V) (nm := zL t1 5) (herd := nI g) hN Um U2 Ub hb11 hR hE (by omega) g3.1 with ⟨t4, p, q, Z, p2, q1, q2', er, g4, ez, u1, ⟨so5, pl5, w5, nu5, nx5, uc⟩, uI, uI1, ⟨uA, u11, u12, u13, u15⟩, uB⟩ | ⟨t4, Z, F, P, p0, p5, er, g4, ez, ZL, ZF⟩
        · have hmo := rG Z ez
          rw [if_pos u1] at hmo
          rw [er]
          have QI : ∀ i, zI (zmg [14] (zpI (zmg [10] Z U) 24 (zI Z 24 + 1)) M) i = if i = 24 then zI Z 24 + 1 else zI Z i := fun i => by rw [zI_mg, zI_pI, zI_mg]
          have QA : ∀ i, ¬ i = 14 → ¬ i = 10 → zA (zmg [14] (zpI (zmg [10] Z U) 24 (zI Z 24 + 1)) M) i = zA Z i := fun i h14 h10 => by
            rw [zA_mg, if_neg (by simpa using h14), zA_pI, zA_mg, if_neg (by simpa using h10)]
          have Q14 : zA (zmg [14] (zpI (zmg [10] Z U) 24 (zI Z 24 + 1)) M) 14 = zA M 14 := by rw [zA_mg, if_pos (by decide)]
          have QB : ∀ l, zB (zmg [14] (zpI (zmg [10] Z U) 24 (zI Z 24 + 1)) M) 10 l = if l = 16 + b then w else zB M 10 l := fun l => by
            rw [zB_mg, if_neg (by decide), zB_pI, zB_mg, if_pos (by decide)]; exact UP.2.2.2 l
          have QL : zL (zmg [14] (zpI (zmg [10] Z U) 24 (zI Z 24 + 1)) M) = zL Z := rfl
          have Z24 : zI Z 24 = nI k := by rw [uI 24 (by decide), if_neg (by decide), UP.1 24 (by decide)]; exact l3
          have qm : moC (zmg [14] (zpI (zmg [10] Z U) 24 (zI Z 24 + 1)) M) T n (j + 8) so5 pl5 w5 nu5 nx5 := uc.of (fun i hi => by rw [QI, if_neg (by omega)]) (by rw [QL]) (QA 0 (by decide) (by decide))
          have q2'' : zI (zmg [14] (zpI (zmg [10] Z U) 24 (zI Z 24 + 1)) M) 2 = 0 := by rw [QI, if_neg (by decide)]; exact u1
          have qL : mL M (zmg [14] (zpI (zmg [10] Z U) 24 (zI Z 24 + 1)) M) := ⟨fun i hi => by rw [QI, if_neg (by omega), uI i (by omega), if_neg (by omega)]; exact UP.1 i (by omega), by rw [QI, if_neg (by decide), uI1]; exact UP.2.1, by rw [QA 0 (by decide) (by decide), uA 0 (by decide), UP.2.2.1]⟩
          rcases close_ok (N := N) hN qm q2'' hR hE (by omega) g4.1 with ⟨_, t5, z, e4, ez4, g5, zz⟩ | ⟨t5, z, F, P, e4, ez4, p0, p5, g5, zk, zF⟩
          · obtain ⟨V', eV, hV⟩ := addBell_B (N := N) (w := zL t1 5) (p := p) (q := q) v2 hb11 v3 hk9 m1 (bset_lt _ _) m3 p2 q2' (show g < 3 by omega)
            rw [e4]
            simp only [zbs]
            rw [if_neg (by decide), eV]
            simp only [zbs]
            rw [zcb_in (Or.inr rfl)]
            refine ⟨_, _, z, rfl, hmo, ez4, qL.trans zz.1.mL, Or.inr ⟨rfl, g5.1, g5.2.1.trans (g4.2.1.trans (g3.2.1.trans (q2.2.1.trans g1.2.1))), g5.2.2.trans (g4.2.2.trans (g3.2.2.trans (q2.2.2.trans g1.2.2))), zz.2.1, zz.2.2, ?_, ⟨fun q => absurd q (by decide), fun q => absurd q (by decide), fun _ => (hV.mg m3).2.2.1.2.1, fun q => absurd q (by decide), fun q => absurd q (by decide), fun q => absurd q (by decide), fun q => absurd q (by decide), fun _ => (hV.mg m3).2.2.2.1.2.2.2.2⟩⟩⟩
            have zI9 : ∀ i, 9 ≤ i → zI z i = if i = 24 then zI Z 24 + 1 else zI Z i := fun i hi => by rw [zz.1.1 i (by omega) (by omega) (by omega) (by omega) (by omega) (by omega)]; exact QI i
            rw [g2] at hV
            refine LR_bell hLR0 (k' := k + 1) ⟨by omega, by omega, by omega⟩ (by rw [if_neg (nI_ne1 (by omega))]) hin (hV.mg m3) ⟨q1, q2'⟩ ?_ ?_ ?_ (fun i hi => ?_) ⟨?_, ?_, ?_, ?_, ?_⟩ (fun l => ?_)
            · rw [zI9 23 (by decide), if_neg (by decide), uI 23 (by decide), if_pos rfl]
            · rw [zI9 24 (by decide), if_pos rfl, Z24, nI_1]
            · rw [zI9 25 (by decide), if_neg (by decide), uI 25 (by decide), if_neg (by decide), UP.1 25 (by decide), l4, show b + 1 - (k + 1) = b - k by omega]
            · rw [zI9 i (by omega), if_neg (by omega), uI i (by omega), if_neg (by omega), UP.1 i (by omega)]
            · rw [zz.1.2.1]; exact Q14
            · rw [zz.1.2.1, QA 11 (by decide) (by decide), u11, UP.2.2.1]
            · rw [zz.1.2.1, QA 12 (by decide) (by decide), u12, UP.2.2.1]
            · rw [zz.1.2.1, QA 13 (by decide) (by decide), u13, UP.2.2.1]
            · rw [zz.1.2.1, QA 15 (by decide) (by decide), u15, UP.2.2.1]
            · rw [zz.1.2.2]; exact QB l
          · rw [e4]
            simp only [zbs]
            rw [if_pos trivial]
            simp only [zbs]
            rw [zcb_in (Or.inl rfl)]
            exact ⟨_, _, z, rfl, hmo, ez4, qL.trans zk.mL, Or.inl ⟨rfl, IS.mg _ m3 m3, F, P, p0, p5, g5, zF⟩⟩
        · have hmo := rG Z ez
          rw [if_neg (ZF.ne p0 p5).2] at hmo
          have ZF' : mF (zmg [14] (zmg [10] Z U) M) F P := ZF
          rw [er]
          simp only [zbs]
          rw [zcb_in (Or.inl rfl)]
          refine ⟨_, _, _, rfl, hmo, Mo_lineEnd_F ZF' p0 p5, ⟨fun i hi => (ZL.1 i hi).trans (UP.1 i (by omega)), ZL.2.1.trans UP.2.1, ?_⟩, Or.inl ⟨rfl, IS.mg _ m3 m3, F, P, p0, p5, g4, ZF'⟩⟩
          rw [zA_mg, if_neg (by decide), zA_mg, if_neg (by decide), ZL.2.2, UP.2.2.1]
      · have hmo := rA Y r em en eY
        have WF : mF (zmg [0, 10, 11, 12, 13, 15] Y S) F P := yF
        have WP : mP M (zmg [0, 10, 11, 12, 13, 15] Y S) (16 + b) w := (SP.k yk).mg SP
        obtain ⟨Z, eZ, ZI, Z0⟩ := Mo_beast_F (N := N) (r := r) (show zI (zmg [0, 10, 11, 12, 13, 15] Y S) 23 = nI b by rw [WP.1 23 (by decide)]; exact l2) hb11 p0 p5 WF
        rw [eZ] at hmo
        have ZF' : mF (zmg [14] Z M) F P := ⟨by rw [zI_mg, ZI]; exact WF.1, by rw [zI_mg, ZI]; exact WF.2⟩
        rw [e3]
        simp only [zbs]
        rw [if_pos trivial]
        refine ⟨_, _, _, rfl, hmo, Mo_lineEnd_F ZF' p0 p5, ⟨fun i hi => ?_, ?_, ?_⟩, Or.inl ⟨rfl, m3, F, P, p0, p5, g3, ZF'⟩⟩
        · rw [zI_mg, ZI]; exact WP.mL.1 i hi
        · rw [zI_mg, ZI]; exact WP.mL.2.1
        · rw [zA_mg, if_neg (by decide), Z0]; exact WP.mL.2.2
      · have hmo := rB Y em en eY
        have WF : mF (zmg [0, 10, 11, 12, 13, 15] Y S) 5 P := yF
        have WP : mP M (zmg [0, 10, 11, 12, 13, 15] Y S) (16 + b) w := (SP.k yk).mg SP
        obtain ⟨Z, eZ, ZI, Z0⟩ := Mo_beast_F (N := N) (r := -1) (show zI (zmg [0, 10, 11, 12, 13, 15] Y S) 23 = nI b by rw [WP.1 23 (by decide)]; exact l2) hb11 (by decide) (by decide) WF
        rw [eZ] at hmo
        have ZF' : mF (zmg [14] Z M) 5 P := ⟨by rw [zI_mg, ZI]; exact WF.1, by rw [zI_mg, ZI]; exact WF.2⟩
        rw [e3]
        simp only [zbs]
        rw [if_neg (by decide), ef]
        simp only [zbs]
        rw [if_pos trivial]
        unfold Teller_refuse Teller_refuse_b0
        simp only [zbs]
        rw [zcb_in (Or.inl rfl)]
        refine ⟨_, _, _, rfl, hmo, Mo_lineEnd_F ZF' (by decide) (by decide), ⟨fun i hi => ?_, ?_, ?_⟩, Or.inl ⟨rfl, m3, 5, P, by decide, by decide, ⟨rfl, g3⟩, ZF'⟩⟩
        · rw [zI_mg, ZI]; exact WP.mL.1 i hi
        · rw [zI_mg, ZI]; exact WP.mL.2.1
        · rw [zA_mg, if_neg (by decide), Z0]; exact WP.mL.2.2
    · obtain ⟨t2, e2, q2⟩ := wn hw
      obtain ⟨z3, ez3, zk, zF⟩ := xn hw
      have p0 : 0 < zfl so2 2 := zfl_pos (by decide)
      have p5 : zfl so2 2 ≤ 5 := zfl_le (by decide)
      have hmo := rF z3 ez3 (zF.ne p0 p5).1
      have ZF' : mF (zmg [14] (zmg [10, 11, 12, 13, 15] z3 S0) M) (zfl so2 2) pl2 := zF
      have WP : mP M (zmg [10, 11, 12, 13, 15] z3 S0) (16 + b) w := (hP.k zk).mg hP
      rw [e2]
      simp only [zbs]
      rw [if_pos trivial]
      refine ⟨_, _, _, rfl, hmo, Mo_lineEnd_F ZF' p0 p5, ⟨fun i hi => ?_, ?_, ?_⟩, Or.inl ⟨rfl, m3, _, _, p0, p5, q2, ZF'⟩⟩
      · rw [zI_mg]; exact WP.mL.1 i hi
      · rw [zI_mg]; exact WP.mL.2.1
      · rw [zA_mg, if_neg (by decide)]; exact WP.mL.2.2
  · have ey : Mo_newName N M 16 (zI M 23) = some y := by rw [l2]; exact ey
    have yF : mF (zmg [11, 12, 13, 15] y M) F P := y2
    have hmo := Mo_beast_runF ey (Mo_want_F (N := N) (v := 28518) (yF.ne p0 p5).1) (yF.ne p0 p5).1
    have ZF' : mF (zmg [14] (zmg [10, 11, 12, 13, 15] (zmg [11, 12, 13, 15] y M) (zmg [11, 12, 13, 15] y M)) M) F P := yF
    have yL := (y1.mg (ks := [11, 12, 13, 15])).mL
    rw [e1]
    simp only [zbs]
    rw [if_pos trivial]
    refine ⟨_, _, _, rfl, hmo, Mo_lineEnd_F ZF' p0 p5, ⟨fun i hi => ?_, ?_, ?_⟩, Or.inl ⟨rfl, m3, F, P, p0, p5, g1, ZF'⟩⟩
    · exact yL.1 i hi
    · exact yL.2.1
    · rw [zA_mg, if_neg (by decide), zA_mg, if_neg (by decide)]; exact yL.2.2
