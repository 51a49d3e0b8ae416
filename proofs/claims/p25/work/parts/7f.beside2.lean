theorem beside_line {N : Nat} (hN : 1600 ≤ N) {T : Nat → Nat} {n m j pl0 nu0 nx0 h b k e d : Nat} {w0 : Int64} {M V sT sR : zSt} (hLR : LR M V h b k e d) (hd : d < 20) (hM : moC M T n j 1 pl0 w0 nu0 nx0) (h2 : zI M 2 = 0) (hR : rdR sR T n m) (hE : m = 205 ∨ rdE T n m) (hT3 : zI sT 3 = nI (j + 1)) (hj : j + 4 ≤ 205) :
    ∃ c z1 z, Teller_tellBeside N sT V sR = some c ∧ Mo_readBeside N M = some z1 ∧ Mo_readLine_b132 N (zmg [11, 12, 14] z1 M) = some z ∧ LO T n (j + 4) M (fun z v => LR z v h b k e (d + 1) ∧ KP [1, 2, 5, 6, 7, 13, 14] V v) sT c z := by
  have hLR0 := hLR
  obtain ⟨⟨l1, l2, l3, l4, l5, l6⟩, ⟨v1, v2, v3, v4, v5⟩, ⟨b1, b2, b3, b4, b5, b6⟩, _, ⟨n3, n4⟩, _, ⟨m1, m2, m3⟩⟩ := hLR
  have hb11 : b ≤ 11 := by omega
  have hrun : Teller_tellBeside N sT V sR = (Teller_takeBeast N sT V sR).bind (fun z2 => if z2.1 = (-1) then (some (0, z2.2, V)) else ((Teller_takeBeast N z2.2 V sR).bind (fun z5 => if z5.1 = (-1) then (some (0, z5.2, V)) else (if z2.1 = z5.1 then (Teller_tellBeside_b60 N z5.2 V sR) else (zck z2.1 11 (if ((((zA V 10) (Int32.toNatClampNeg z2.1)) >>> (z5.1 &&& 31)) &&& 1) = 1 then (Teller_tellBeside_b60 N z5.2 V sR) else ((Teller_take N z5.2 sR 4).bind (fun z11 => if z11.1 = 0 then (some (0, z11.2, V)) else ((Valley_addBeside N V z2.1 z5.1).bind (fun z14 => some (1, z11.2, (zmg [4] z14 V)))))))))))) := by
    unfold Teller_tellBeside Teller_tellBeside_b0
    rw [v5, if_pos ((zltL (k := 20) (by omega) (by decide)).mpr hd)]
  obtain ⟨y, ey, yk0, y2, so1, pl1, w1, nu1, nx1, yc⟩ := Mo_token_G (N := N) hN hM h2 (by decide) (by decide)
  have yk : mK M (zmg [10, 13, 15] y M) := yk0.mg
  have ym : moC (zmg [10, 13, 15] y M) T n (j + 1) so1 pl1 w1 nu1 nx1 := yc.mg yk0.2.1
  have y2 : zI (zmg [10, 13, 15] y M) 2 = 0 := y2
  have hmo : Mo_readBeside N M = (Mo_old N (zmg [10, 13, 15] y M)).bind (fun z3 => if (zI z3.2 2) = 0 then ((Mo_token N (zmg [0,15] z3.2 (zmg [10,13,15] y M))).bind (fun z6 => Mo_readBeside_b20 N (zmg [10,13,15] z6 (zmg [0,15] z3.2 (zmg [10,13,15] y M))) z3.1)) else (Mo_readBeside_b20 N (zmg [0,15] z3.2 (zmg [10,13,15] y M)) z3.1)) := by
    unfold Mo_readBeside Mo_readBeside_b0
    rw [ey]
    simp only [zbs]
  generalize zmg [10, 13, 15] y M = S at yk ym y2 hmo
  have facts : ∀ S, mK M S → zI S 23 = nI b ∧ (∀ i, i < b → zB S 10 (16 + i) = zB V 4 i ∧ zA S 13 i = zA V 7 i) := fun S yk => ⟨by rw [yk.1 23 (by decide) (by decide) (by decide) (by decide) (by decide) (by decide)]; exact l2, fun i hi => by rw [yk.2.1, yk.2.2]; exact ⟨(n3 i hi).1, (n3 i hi).2.2.2.1⟩⟩
  -- a fault of the reference, and the line's end behind it
  have fin : ∀ (X : zSt) (F P : Nat), 0 < F → F ≤ 5 → mK M X → mF X F P → Mo_readLine_b132 N (zmg [11, 12, 14] X M) = some (zmg [11, 12, 14] X M) ∧ mL M (zmg [11, 12, 14] X M) ∧ mF (zmg [11, 12, 14] X M) F P := fun X F P p0 p5 xk xF => by
    have xF' : mF (zmg [11, 12, 14] X M) F P := xF
    exact ⟨Mo_lineEnd_F xF' p0 p5, xk.mg.mL, xF'⟩
  rw [hrun, hmo]
  rcases old_two (N := N) hN ym y2 hR hE (by omega) hT3 hb11 v2 (facts S yk).1 m3 m1 (facts S yk).2 n4.1 with ⟨t1, a, ha, so_1, e1, g1, gp, eo⟩ | ⟨t1, F, P, r, Y, p0, p5, e1, g1, eo, k1, f1⟩
  · rw [e1, eo]
    simp only [zbs]
    rw [if_neg (nI_ne1 (by omega)), if_pos y2, zmg_self]
    obtain ⟨u, eu, uk0, u2, so2, pl2, w2, nu2, nx2, uc⟩ := Mo_token_G (N := N) hN ym y2 (by omega) (by omega)
    have uk : mK M (zmg [10, 13, 15] u S) := yk.trans uk0.mg
    have um : moC (zmg [10, 13, 15] u S) T n (j + 2) so2 pl2 w2 nu2 nx2 := uc.mg uk0.2.1
    have u2 : zI (zmg [10, 13, 15] u S) 2 = 0 := u2
    rw [eu]
    simp only [zbs]
    generalize zmg [10, 13, 15] u S = U at uk um u2
    have h20 : Mo_readBeside_b20 N U (nI a) = (Mo_old N U).bind (fun z1 => if (zI z1.2 2) = 0 then (if nI a = z1.1 then (Mo_readBeside_b51 N (zmg [0,15] z1.2 U) (nI a) z1.1) else (zck (nI a) 11 (if ((((zA U 15) (Int32.toNatClampNeg (nI a))) >>> (z1.1 &&& 31)) &&& 1) = 1 then (Mo_readBeside_b51 N (zmg [0,15] z1.2 U) (nI a) z1.1) else (Mo_readBeside_b56 N (zmg [0,15] z1.2 U) (nI a) z1.1)))) else (Mo_readBeside_b56 N (zmg [0,15] z1.2 U) (nI a) z1.1)) := rfl
    rw [h20]
    rcases old_two (N := N) hN um u2 hR hE (by omega) g1.1 hb11 v2 (facts U uk).1 m3 m1 (facts U uk).2 n4.1 with ⟨t2, c, hc, so_2, e2, g2, gp2, eo2⟩ | ⟨t2, F, P, r, Y, p0, p5, e2, g2, eo2, k2, f2⟩
    · rw [e2, eo2]
      simp only [zbs]
      rw [if_neg (nI_ne1 (by omega)), if_pos u2, zmg_self]
      -- told already
      obtain ⟨Y, eY, k3, f3, _⟩ := Mo_wrong_ok (N := N) um u2 3
      have eY : Mo_wrong N U 3 = some Y := eY
      have f3 : mF Y (zfl so2 3) pl2 := f3
      rw [show zfl so2 3 = 3 from if_neg (by omega)] at f3
      have f3' : mF (zmg [0, 10, 13, 15] Y U) 3 pl2 := f3
      have b51 : Mo_readBeside_b51 N U (nI a) (nI c) = some (zmg [0, 10, 13, 15] Y U) := by
        unfold Mo_readBeside_b51
        rw [eY]
        simp only [zbs]
        exact Mo_bes_F (by decide) (by decide) f3'
      have b60 : Teller_tellBeside_b60 N t2 V sR = some (0, zpI (zpI t2 0 3) 1 (zI t2 4), V) := by
        unfold Teller_tellBeside_b60 Teller_refuse Teller_refuse_b0
        simp only [zbs]
        rw [zcb_in (Or.inl rfl)]
      have tf3 : tF (zpI (zpI t2 0 3) 1 (zI t2 4)) 3 pl2 := ⟨rfl, gp2⟩
      have both : ∃ c' z1 z, Teller_tellBeside_b60 N t2 V sR = some c' ∧ Mo_readBeside_b51 N U (nI a) (nI c) = some z1 ∧ Mo_readLine_b132 N (zmg [11, 12, 14] z1 M) = some z ∧ LO T n (j + 4) M (fun z v => LR z v h b k e (d + 1) ∧ KP [1, 2, 5, 6, 7, 13, 14] V v) sT c' z := by
        obtain ⟨x1, x2, x3⟩ := fin _ 3 pl2 (by decide) (by decide) (uk.trans k3.mg) f3'
        exact ⟨_, _, _, b60, b51, x1, x2, Or.inl ⟨rfl, m3, 3, pl2, by decide, by decide, tf3, x3⟩⟩
      by_cases hac : a = c
      · rw [if_pos (by rw [hac]), if_pos (by rw [hac])]
        exact both
      · have hne : ¬ nI a = nI c := fun q => hac ((nI_eq (by omega) (by omega)).mp q)
        rw [if_neg hne, if_neg hne, zck_in (vp_in_nI (by omega) (by decide)), zck_in (vp_in_nI (by omega) (by decide)), nI_clamp (by omega)]
        have e15 : zA U 15 a = zA V 10 a := by rw [uk.2.1]; exact (n3 a ha).2.2.2.2
        rw [e15]
        by_cases hbit : ((zA V 10 a >>> (nI c &&& 31)) &&& 1) = 1
        · rw [if_pos hbit, if_pos hbit]
          exact both
        · rw [if_neg hbit, if_neg hbit]
          have u27 : zI U 27 = nI d := by rw [uk.1 27 (by decide) (by decide) (by decide) (by decide) (by decide) (by decide)]; exact l6
          obtain ⟨Z, eZ, Z2, ⟨so3, pl3, w3, nu3, nx3, Zc⟩, ZI, ZI1, ZA, Z15, ZB⟩ := Mo_bes_G (N := N) hN um u2 so_2 (show a < 11 by omega) (show c < 11 by omega) u27
          have QI : ∀ i, 9 ≤ i → zI (zmg [11, 12, 14] Z M) i = if i = 27 then nI (d + 1) else zI M i := fun i hi => by
            rw [zI_mg, ZI i hi]
            by_cases q : i = 27
            · rw [if_pos q, if_pos q]
            · rw [if_neg q, if_neg q]; exact uk.1 i (by omega) (by omega) (by omega) (by omega) (by omega) (by omega)
          have QA : ∀ i, ¬ i = 15 → zA (zmg [11, 12, 14] Z M) i = zA M i := fun i hi => by
            rw [zA_mg]
            split
            · rfl
            · rw [ZA i hi, uk.2.1]
          have Q15 : zA (zmg [11, 12, 14] Z M) 15 = bsd (zA M 15) a c := by rw [zA_mg, if_neg (by decide), Z15, uk.2.1]
          have QB : zB (zmg [11, 12, 14] Z M) 10 = zB M 10 := by rw [zB_mg, if_neg (by decide), ZB, uk.2.2]
          have Q2 : zI (zmg [11, 12, 14] Z M) 2 = 0 := Z2
          have Qm : moC (zmg [11, 12, 14] Z M) T n (j + 3) so3 pl3 w3 nu3 nx3 := Zc.mgP (by rw [ZA 0 (by decide), uk.2.1])
          have QL : mL M (zmg [11, 12, 14] Z M) := ⟨fun i hi => by rw [QI i (by omega), if_neg (by omega)], by rw [zI_mg, ZI1]; exact uk.1 1 (by decide) (by decide) (by decide) (by decide) (by decide) (by decide), QA 0 (by decide)⟩
          rcases close_ok (N := N) hN Qm Q2 hR hE (by omega) g2.1 with ⟨_, t3, z, e4, ez4, g3, zz⟩ | ⟨t3, z, F, P, e4, ez4, p0, p5, g3, zk, zF⟩
          · rw [e4]
            simp only [zbs]
            rw [if_neg (by decide), addBeside_eq (show a < 11 by omega) (show c < 11 by omega) v5]
            simp only [zbs]
            refine ⟨_, Z, z, rfl, eZ, ez4, QL.trans zz.1.mL, Or.inr ⟨rfl, g3.1, g3.2.1.trans (g2.2.1.trans g1.2.1), g3.2.2.trans (g2.2.2.trans g1.2.2), zz.2.1, zz.2.2, ?_, ⟨fun _ => rfl, fun q => absurd q (by decide), fun _ => rfl, fun _ => rfl, fun _ => rfl, fun _ => rfl, fun q => absurd q (by decide), fun _ => rfl⟩⟩⟩
            refine LR_beside hLR0 hd ha hc ⟨fun i hi => ?_, ?_, fun i hi => ?_, ?_, ?_, ?_⟩ (fun i hi => ?_) (fun i hi => ?_) ?_ ?_
            · rw [zI_mg, zI_pI, if_neg hi, zI_sA, zI_sA]
            · rw [zI_mg, zI_pI, if_pos rfl]
            · rw [zA_mg]
              split
              · rfl
              · rw [zA_pI, zA_sA, if_neg hi, zA_sA, if_neg hi]
            · rw [zA_mg, if_neg (by decide), zA_pI, zA_sA, if_pos rfl]
            · funext i
              rw [zB_mg]
              split <;> rfl
            · have e1 := nI_toInt (n := d + 1) (by omega)
              exact IS.mg _ (IS.pI 11 _ (IS.sA 10 _ (IS.sA 10 _ m3 (fun _ => tr _)) (fun _ => tr _)) (show (0 : Int) ≤ (nI (d + 1)).toInt ∧ (nI (d + 1)).toInt ≤ 20 by omega)) m3
            · rw [zz.1.1 i (by omega) (by omega) (by omega) (by omega) (by omega) (by omega)]; exact QI i hi
            · rw [zz.1.2.1]; exact QA i hi
            · rw [zz.1.2.1]; exact Q15
            · rw [zz.1.2.2]; exact QB
          · rw [e4]
            simp only [zbs]
            rw [if_pos trivial]
            exact ⟨_, Z, z, rfl, eZ, ez4, QL.trans zk.mL, Or.inl ⟨rfl, m3, F, P, p0, p5, g3, zF⟩⟩
    · rw [e2, eo2]
      simp only [zbs]
      rw [if_pos trivial, if_neg (f2.ne p0 p5).2]
      have f2' : mF (zmg [0, 15] Y U) F P := f2
      obtain ⟨x1, x2, x3⟩ := fin _ F P p0 p5 (uk.trans k2.mg) f2'
      exact ⟨_, _, _, rfl, Mo_bes_F p0 p5 f2', x1, x2, Or.inl ⟨rfl, m3, F, P, p0, p5, g2, x3⟩⟩
  · rw [e1, eo]
    simp only [zbs]
    rw [if_pos trivial, if_neg (f1.ne p0 p5).2]
    have f1' : mF (zmg [0, 15] Y S) F P := f1
    obtain ⟨x1, x2, x3⟩ := fin _ F P p0 p5 (yk.trans k1.mg) f1'
    exact ⟨_, _, _, rfl, Mo_bes_b20F p0 p5 f1', x1, x2, Or.inl ⟨rfl, m3, F, P, p0, p5, g1, x3⟩⟩
