/-! the line of two beasts beside each other -/
theorem zmg_self (ks : List Nat) (s : zSt) : zmg ks s s = s := by
  obtain ⟨a, b, c, d⟩ := s
  unfold zmg
  simp only [ite_self]
theorem isBeast_eq {N b i : Nat} {V : zSt} (h8 : zI V 8 = nI (bset (isB V) b)) (hb : b ≤ 11) (hi : i < b) : Valley_isBeast N V (nI i) = some (if isB V i then 1 else 0) := by
  have hl := bset_lt (isB V) b
  have hp : 2 ^ b ≤ 2 ^ 11 := Nat.pow_le_pow_right (by decide) hb
  have e : (zI V 8 >>> (nI i &&& 31)) &&& 1 = nI (if isB V i then 1 else 0) := by
    rw [h8, pk_shrN (by omega) _ i (sl_ok i (by omega)), pk_andN (Nat.lt_of_le_of_lt (Nat.div_le_self _ _) (by omega)) (m := 1) 1 (by decide), Nat.pow_one, bset_bit b hi]
  unfold Valley_isBeast Valley_isBeast_b0
  rw [e]
  by_cases q : isB V i = true
  · rw [if_pos q, if_pos q]; rfl
  · rw [if_neg q, if_neg q]; rfl
theorem isB_iff {V : zSt} {i : Nat} (hV : I_Valley V) : isB V i = true ↔ 0 ≤ zA V 7 i := by
  have h : (-1 : Int) ≤ (zA V 7 i).toInt ∧ (zA V 7 i).toInt ≤ 2 := hV.2 7 i
  have e0 : (0 : Int32).toInt = 0 := by decide
  have e1 : ((-1) : Int32).toInt = -1 := by decide
  unfold isB
  rw [decide_eq_true_iff, Int32.le_iff_toInt_le]
  constructor
  · intro q
    have := tneq q
    omega
  · intro q r
    have := teq r
    omega
theorem Mo_old_F {N : Nat} {z : zSt} (h : ¬ zI z 2 ≤ 0) : Mo_old N z = some (0, z) := by
  unfold Mo_old Mo_old_b0
  rw [if_neg h]
/-- a beast's name, on both sides -/
theorem old_two {N : Nat} (hN : 1600 ≤ N) {T : Nat → Nat} {n m j so pl nu nx b : Nat} {w : Int64} {S V t sR : zSt} (hm : moC S T n j so pl w nu nx) (h2 : zI S 2 = 0) (hR : rdR sR T n m) (hE : m = 205 ∨ rdE T n m) (hj : j < 205) (h3 : zI t 3 = nI j) (hb : b ≤ 11) (v3 : zI V 3 = nI b) (s23 : zI S 23 = nI b) (hV : I_Valley V) (h8 : zI V 8 = nI (bset (isB V) b)) (hf : ∀ i, i < b → zB S 10 (16 + i) = zB V 4 i ∧ zA S 13 i = zA V 7 i) (hd : ∀ i l, i < b → l < b → zB V 4 i = zB V 4 l → i = l) :
    (∃ t1 a, a < b ∧ so = 1 ∧ Teller_takeBeast N t V sR = some (nI a, t1) ∧ tG t t1 j ∧ zI t1 4 = nI pl ∧ Mo_old N S = some (nI a, S)) ∨
    (∃ t1 F P r Y, 0 < F ∧ F ≤ 5 ∧ Teller_takeBeast N t V sR = some (-1, t1) ∧ tF t1 F P ∧ Mo_old N S = some (r, Y) ∧ mK S Y ∧ mF Y F P) := by
  have hc := hm.2.1
  have hso := hc.so
  have h6 := hm.2.2.1
  have h9 := hm.2.2.2.2.1
  obtain ⟨ty, tn⟩ := Teller_takeName_ok (N := N) hR (hc.lt hj hE) hc h3
  obtain ⟨r, hr, er⟩ := Mo_find_ok (N := N) (s := S) (b := 16) (c := b) (by omega) hN
  have er : Mo_find N S 16 (nI b) = some r := er
  have hold : Mo_old N S = (Mo_isName N S).bind (fun z4 => if z4 = 0 then ((Mo_wrong N S 2).bind (fun z10 => some (r, (zmg [10,13] z10 S)))) else (if r < 0 then (Mo_old_b48 N S r) else (zck r 11 (if 0 ≤ ((zA S 13) (Int32.toNatClampNeg r)) then (some (r, S)) else (Mo_old_b48 N S r))))) := by
    unfold Mo_old Mo_old_b0
    rw [if_pos (by rw [h2]; decide), s23, er]
    simp only [zbs]
  by_cases hok : so = 1 ∧ ¬ isKw w
  · obtain ⟨t1, e1, g1, g2, g3⟩ := ty hok
    have en : Mo_isName N S = some 1 := Mo_isName_y (by rw [h6, hok.1]; rfl) (by rw [h9]; exact hok.2)
    obtain ⟨r2, hr2, er2⟩ := Teller_find_ok (N := N) (f := zB V 4) (w := zL t1 5) (n0 := 11) (c := b) hb (by decide) hN
    rw [h9] at hr
    rw [g3] at hr2
    have e : r2 = r := isFd.uniq (by omega) (fun i hi => (hf i hi).1.symm) hd hr2 hr
    subst e
    have hbe : Teller_takeBeast N t V sR = if r2 = (-1) then (Teller_takeBeast_b38 N t1 V sR) else ((Valley_isBeast N V r2).bind (fun z7 => if z7 = 0 then (Teller_takeBeast_b38 N t1 V sR) else (some (r2, t1)))) := by
      unfold Teller_takeBeast Teller_takeBeast_b0
      rw [e1]
      simp only [zbs]
      rw [if_neg (by decide), v3, er2]
      simp only [zbs]
    have b38 : Teller_takeBeast_b38 N t1 V sR = some (-1, zpI (zpI t1 0 5) 1 (zI t1 4)) := rfl
    obtain ⟨Y, eY, y1, y2, y3⟩ := Mo_wrong_ok (N := N) hm h2 5
    have eY : Mo_wrong N S 5 = some Y := eY
    have y2 : mF Y (zfl so 5) pl := y2
    rw [show zfl so 5 = 5 from if_neg (by omega)] at y2
    have b48 : Mo_old_b48 N S r2 = some (r2, zmg [10, 13] Y S) := by
      unfold Mo_old_b48
      rw [eY]
      simp only [zbs]
    have tf5 : tF (zpI (zpI t1 0 5) 1 (zI t1 4)) 5 pl := ⟨rfl, g2⟩
    rw [hold, en, hbe]
    simp only [zbs]
    rw [if_neg (show ¬ (1 : Int32) = 0 by decide)]
    rcases hr2 with ⟨q1, q2⟩ | ⟨a, q1, q2, q3⟩
    · rw [if_pos q1, b38, if_pos (by rw [q1]; decide), b48]
      exact Or.inr ⟨_, 5, pl, r2, _, by decide, by decide, rfl, tf5, rfl, y1.mg, y2⟩
    · subst q2
      rw [if_neg (nI_ne1 (by omega)), if_neg (nI_pos (by omega)), isBeast_eq h8 hb q1, zck_in (vp_in_nI (by omega) (by decide)), nI_clamp (by omega), (hf a q1).2]
      simp only [zbs]
      by_cases qb : isB V a = true
      · rw [if_pos qb, if_neg (by decide), if_pos ((isB_iff hV).mp qb)]
        exact Or.inl ⟨t1, a, q1, hok.1, rfl, g1, g2, rfl⟩
      · rw [if_neg qb, if_pos (show (0 : Int32) = 0 from rfl), b38, if_neg (fun z => qb ((isB_iff hV).mpr z)), b48]
        exact Or.inr ⟨_, 5, pl, _, _, by decide, by decide, rfl, tf5, rfl, y1.mg, y2⟩
  · obtain ⟨t1, e1, g1⟩ := tn hok
    have en : Mo_isName N S = some 0 := Mo_isName_n (by
      by_cases q : so = 1
      · exact Or.inr (by rw [h9]; exact Classical.byContradiction fun z => hok ⟨q, z⟩)
      · exact Or.inl (fun z => q ((zeqL (k := 1) (by omega) (by decide)).mp (h6 ▸ z))))
    obtain ⟨Y, eY, y1, y2, y3⟩ := Mo_wrong_ok (N := N) hm h2 2
    have eY : Mo_wrong N S 2 = some Y := eY
    have hbe : Teller_takeBeast N t V sR = some (-1, t1) := by
      unfold Teller_takeBeast Teller_takeBeast_b0
      rw [e1]
      simp only [zbs]
      rw [if_pos trivial]
    rw [hold, en, hbe]
    simp only [zbs]
    rw [if_pos trivial, eY]
    simp only [zbs]
    exact Or.inr ⟨_, _, _, _, _, zfl_pos (by decide), zfl_le (by decide), rfl, g1, rfl, y1.mg, y2⟩
/-- two beside each other -/
def bsd (f : Nat → Int32) (a c : Nat) : Nat → Int32 := upd (upd f a (f a ||| ((1 : Int32) <<< (nI c &&& 31)))) c ((upd f a (f a ||| ((1 : Int32) <<< (nI c &&& 31)))) c ||| ((1 : Int32) <<< (nI a &&& 31)))
theorem bsd_congr {f g : Nat → Int32} {a c b : Nat} (ha : a < b) (hc : c < b) (h : ∀ i, i < b → f i = g i) : ∀ i, i < b → bsd f a c i = bsd g a c i := by
  intro i hi
  unfold bsd
  simp only [upd_at]
  rw [h a ha, h c hc, h i hi]
theorem Mo_bes_F {N F P : Nat} {S : zSt} {r q : Int32} (p0 : 0 < F) (p5 : F ≤ 5) (hF : mF S F P) : Mo_readBeside_b56 N S r q = some S := by
  unfold Mo_readBeside_b56
  rw [if_neg (hF.ne p0 p5).1]
theorem Mo_bes_b20F {N F P : Nat} {S : zSt} {r : Int32} (p0 : 0 < F) (p5 : F ≤ 5) (hF : mF S F P) : Mo_readBeside_b20 N S r = some S := by
  unfold Mo_readBeside_b20
  rw [Mo_old_F (hF.ne p0 p5).1]
  simp only [zbs]
  rw [if_neg (hF.ne p0 p5).2, zmg_self, Mo_bes_F p0 p5 hF]
/-- the reference behind two that are beside each other -/
theorem Mo_bes_G {N : Nat} (hN : 1600 ≤ N) {T : Nat → Nat} {n j so pl nu nx a c d : Nat} {w : Int64} {S : zSt} (hm : moC S T n j so pl w nu nx) (h2 : zI S 2 = 0) (h1 : so = 1) (ha : a < 11) (hc : c < 11) (h27 : zI S 27 = nI d) :
    ∃ Z, Mo_readBeside_b56 N S (nI a) (nI c) = some Z ∧ zI Z 2 = 0 ∧ (∃ so pl w nu nx, moC Z T n (j + 1) so pl w nu nx) ∧ (∀ i, 9 ≤ i → zI Z i = if i = 27 then nI (d + 1) else zI S i) ∧ zI Z 1 = zI S 1 ∧ (∀ i, ¬ i = 15 → zA Z i = zA S i) ∧ zA Z 15 = bsd (zA S 15) a c ∧ zB Z = zB S := by
  obtain ⟨y, ey, yk, y2, so2, pl2, w2, nu2, nx2, yc⟩ := Mo_token_G (N := N) hN hm h2 (by omega) (by omega)
  unfold Mo_readBeside_b56
  rw [if_pos (by rw [h2]; decide), ey]
  simp only [zbs]
  rw [zck_in (vp_in_nI ha (by decide)), zck_in (vp_in_nI ha (by decide)), zck_in (vp_in_nI hc (by decide)), zck_in (vp_in_nI hc (by decide)), nI_clamp (by omega), nI_clamp (by omega)]
  unfold Mo_readBeside_b92 Mo_readBeside_b102
  have y27 : zI y 27 = nI d := by rw [yk.1 27 (by decide) (by decide) (by decide) (by decide) (by decide) (by decide)]; exact h27
  have e27 : zI (zsA (zsA (zmg [10, 13, 15] y S) 15 (upd (zA S 15) a (zA S 15 a ||| ((1 : Int32) <<< (nI c &&& 31))))) 15 (bsd (zA S 15) a c)) 27 + 1 = nI (d + 1) := by rw [zI_sA, zI_sA, zI_mg, y27, nI_1]
  have e27 : zI (zsA (zsA (zmg [10, 13, 15] y S) 15 (upd (zA S 15) a (zA S 15 a ||| ((1 : Int32) <<< (nI c &&& 31))))) 15 (upd (upd (zA S 15) a (zA S 15 a ||| ((1 : Int32) <<< (nI c &&& 31)))) c ((upd (zA S 15) a (zA S 15 a ||| ((1 : Int32) <<< (nI c &&& 31)))) c ||| ((1 : Int32) <<< (nI a &&& 31))))) 27 + 1 = nI (d + 1) := e27
  rw [e27]
  refine ⟨_, rfl, ?_, ⟨so2, pl2, w2, nu2, nx2, yc.of (fun i hi => ?_) rfl ?_⟩, fun i hi => ?_, ?_, fun i hi => ?_, ?_, ?_⟩
  · rw [zI_pI, if_neg (by decide), zI_sA, zI_sA, zI_mg]; exact y2
  · rw [zI_pI, if_neg (by omega), zI_sA, zI_sA, zI_mg]
  · rw [zA_pI, zA_sA, if_neg (by decide), zA_sA, if_neg (by decide), zA_mg, if_neg (by decide)]
  · rw [zI_pI]
    by_cases q : i = 27
    · rw [if_pos q, if_pos q]
    · rw [if_neg q, if_neg q, zI_sA, zI_sA, zI_mg]
      exact yk.1 i (by omega) (by omega) (by omega) (by omega) (by omega) (by omega)
  · rw [zI_pI, if_neg (by decide), zI_sA, zI_sA, zI_mg]
    exact yk.1 1 (by decide) (by decide) (by decide) (by decide) (by decide) (by decide)
  · rw [zA_pI, zA_sA, if_neg hi, zA_sA, if_neg hi, zmg_A yk.2.1]
  · rw [zA_pI, zA_sA, if_pos rfl]; rfl
  · funext i
    rw [zB_pI, zB_sA, zB_sA, zmg_B yk.2.2]
theorem addBeside_eq {N a c d : Nat} {V : zSt} (ha : a < 11) (hc : c < 11) (hd : zI V 11 = nI d) : Valley_addBeside N V (nI a) (nI c) = some (zpI (zsA (zsA V 10 (upd (zA V 10) a (zA V 10 a ||| ((1 : Int32) <<< (nI c &&& 31))))) 10 (bsd (zA V 10) a c)) 11 (nI (d + 1))) := by
  unfold Valley_addBeside Valley_addBeside_b0
  rw [zck_in (vp_in_nI ha (by decide)), zck_in (vp_in_nI ha (by decide)), zck_in (vp_in_nI hc (by decide)), zck_in (vp_in_nI hc (by decide)), nI_clamp (by omega), nI_clamp (by omega)]
  unfold Valley_addBeside_b24 Valley_addBeside_b34
  rw [zI_sA, zI_sA, hd, nI_1]
  rfl
theorem LR_beside {M z V V' : zSt} {h b k e d a c : Nat} (hLR : LR M V h b k e d) (hd : d < 20) (ha : a < b) (hc : c < b)
    (hV : (∀ i, ¬ i = 11 → zI V' i = zI V i) ∧ zI V' 11 = nI (d + 1) ∧ (∀ i, ¬ i = 10 → zA V' i = zA V i) ∧ zA V' 10 = bsd (zA V 10) a c ∧ zB V' = zB V ∧ I_Valley V')
    (hI : ∀ i, 9 ≤ i → zI z i = if i = 27 then nI (d + 1) else zI M i) (hA : ∀ i, ¬ i = 15 → zA z i = zA M i) (h15 : zA z 15 = bsd (zA M 15) a c) (hB : zB z 10 = zB M 10) : LR z V' h b k e (d + 1) := by
  obtain ⟨⟨l1, l2, l3, l4, l5, l6⟩, ⟨v1, v2, v3, v4, v5⟩, ⟨b1, b2, b3, b4, b5, b6⟩, ⟨n1, n2⟩, ⟨n3, n4⟩, ⟨n5, n6⟩, ⟨m1, m2, m3⟩⟩ := hLR
  obtain ⟨c1, c2, c3, c4, c5, c6⟩ := hV
  have hiB : isB V' = isB V := by
    funext i
    unfold isB
    rw [c3 7 (by decide)]
  refine ⟨⟨by rw [hI _ (by decide)]; exact l1, by rw [hI _ (by decide)]; exact l2, by rw [hI _ (by decide)]; exact l3, by rw [hI _ (by decide)]; exact l4, by rw [hI _ (by decide)]; exact l5, by rw [hI _ (by decide), if_pos rfl]⟩, ⟨by rw [c1 0 (by decide)]; exact v1, by rw [c1 3 (by decide)]; exact v2, by rw [c1 9 (by decide)]; exact v3, by rw [c1 12 (by decide)]; exact v4, c2⟩, ⟨b1, b2, b3, b4, b5, by omega⟩, ⟨by rw [hB, c5]; exact n1, by rw [c5]; exact n2⟩, ⟨fun i hi => ?_, by rw [c5, c3 6 (by decide)]; exact n4⟩, ⟨fun i hi => ?_, by rw [c5]; exact n6⟩, ⟨?_, ?_, c6⟩⟩
  · obtain ⟨x1, x2, x3, x4, x5⟩ := n3 i hi
    refine ⟨by rw [hB, c5]; exact x1, by rw [hA 11 (by decide), c3 5 (by decide)]; exact x2, by rw [hA 12 (by decide), c3 6 (by decide)]; exact x3, by rw [hA 13 (by decide), c3 7 (by decide)]; exact x4, ?_⟩
    rw [h15, c4]
    exact bsd_congr ha hc (fun l hl => (n3 l hl).2.2.2.2) i hi
  · rw [hB, c5, hA 14 (by decide), c3 14 (by decide)]; exact n5 i hi
  · rw [c1 8 (by decide), hiB]; exact m1
  · rw [hiB]; exact m2
