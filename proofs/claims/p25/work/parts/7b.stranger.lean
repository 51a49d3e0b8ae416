/-! the line of a stranger -/
theorem nI_or {a b : Nat} (ha : a < 2 ^ 31) (hb : b < 2 ^ 31) : nI a ||| nI b = nI (a ||| b) := by
  apply Int32.toBitVec_inj.mp
  rw [Int32.toBitVec_or]
  apply BitVec.eq_of_toNat_eq
  rw [BitVec.toNat_or, nI_toNat (by omega), nI_toNat (by omega), nI_toNat (Nat.lt_of_lt_of_le (Nat.or_lt_two_pow ha hb) (by decide))]
theorem or_pow {B b : Nat} (h : B < 2 ^ b) : B ||| 2 ^ b = B + 2 ^ b := by
  have := Nat.two_pow_add_eq_or_of_lt h 1
  rw [Nat.mul_one] at this
  rw [Nat.or_comm, ← this, Nat.add_comm]
/-- the class's valley behind a good bell -/
def VG (V V' : zSt) (b k B : Nat) (w : Int64) (p q : Nat) (herd : Int32) : Prop :=
  (zI V' 0 = zI V 0 ∧ zI V' 12 = zI V 12 ∧ zI V' 11 = zI V 11) ∧ (zI V' 3 = nI (b + 1) ∧ zI V' 9 = nI k) ∧ (zB V' 1 = zB V 1 ∧ zB V' 13 = zB V 13 ∧ zB V' 4 = vp_updL (zB V 4) b w) ∧
  (zA V' 5 = upd (zA V 5) b (nI p) ∧ zA V' 6 = upd (zA V 6) b (nI q) ∧ zA V' 7 = upd (zA V 7) b herd ∧ zA V' 10 = upd (zA V 10) b 0 ∧ zA V' 14 = zA V 14) ∧ zI V' 8 = nI (B + if herd = -1 then 0 else 2 ^ b) ∧ I_Valley V'
theorem addBell_I {V : zSt} {b p q : Nat} {w : Int64} {herd : Int32} (hV : I_Valley V) (hp : p ≤ 11) (hq : q ≤ 99) (hh : (-1 : Int) ≤ herd.toInt ∧ herd.toInt ≤ 2) : I_Valley (zsA (zsA (zsA (zsA (zsB V 4 (vp_updL (zB V 4) b w)) 7 (upd (zA V 7) b herd)) 5 (upd (zA V 5) b (nI p))) 6 (upd (zA V 6) b (nI q))) 10 (upd (zA V 10) b 0)) := by
  have e1 := nI_toInt (n := p) (by omega)
  have e2 := nI_toInt (n := q) (by omega)
  refine IS.sA 10 _ (IS.sA 6 _ (IS.sA 5 _ (IS.sA 7 _ (IS.sB 4 _ hV) ?_) ?_) ?_) (fun _ => tr _)
  · exact show ∀ i, (-1 : Int) ≤ (upd (zA V 7) b herd i).toInt ∧ (upd (zA V 7) b herd i).toInt ≤ 2 from rgu (fun i => hV.2 7 i) hh
  · exact show ∀ i, (0 : Int) ≤ (upd (zA V 5) b (nI p) i).toInt ∧ (upd (zA V 5) b (nI p) i).toInt ≤ 11 from rgu (fun i => hV.2 5 i) ⟨by omega, by omega⟩
  · exact show ∀ i, (0 : Int) ≤ (upd (zA V 6) b (nI q) i).toInt ∧ (upd (zA V 6) b (nI q) i).toInt ≤ 99 from rgu (fun i => hV.2 6 i) ⟨by omega, by omega⟩
theorem addBell_S {N b k B p q : Nat} {V : zSt} {w : Int64} (hb : zI V 3 = nI b) (hb11 : b < 11) (hk : zI V 9 = nI k) (h8 : zI V 8 = nI B) (hV : I_Valley V) (hp : p ≤ 11) (hq : q ≤ 99) : ∃ V', Valley_addBell N V w (-1) (nI p) (nI q) = some V' ∧ VG V V' b k B w p q (-1) := by
  unfold Valley_addBell Valley_addBell_b0
  rw [hb, zck_in (vp_in_nI hb11 (by decide)), zck_in (vp_in_nI hb11 (by decide)), zck_in (vp_in_nI hb11 (by decide)), zck_in (vp_in_nI hb11 (by decide)), zck_in (vp_in_nI hb11 (by decide)), nI_clamp (by omega), if_pos rfl]
  unfold Valley_addBell_b97
  have e3 := nI_toInt (n := b + 1) (by omega)
  have hI := addBell_I (b := b) (w := w) (herd := -1) hV hp hq (by decide)
  generalize hX : zsA (zsA (zsA (zsA (zsB V 4 (vp_updL (zB V 4) b w)) 7 (upd (zA V 7) b (-1))) 5 (upd (zA V 5) b (nI p))) 6 (upd (zA V 6) b (nI q))) 10 (upd (zA V 10) b 0) = X at hI ⊢
  have x3 : zI X 3 = nI b := by rw [← hX]; exact hb
  refine ⟨_, rfl, ⟨?_, ?_, ?_⟩, ⟨?_, ?_⟩, ⟨?_, ?_, ?_⟩, ⟨?_, ?_, ?_, ?_, ?_⟩, ?_, ?_⟩
  · rw [zI_pI, if_neg (by decide), ← hX]; rfl
  · rw [zI_pI, if_neg (by decide), ← hX]; rfl
  · rw [zI_pI, if_neg (by decide), ← hX]; rfl
  · rw [zI_pI, if_pos rfl, x3, nI_1]
  · rw [zI_pI, if_neg (by decide), ← hX]; exact hk
  · rw [zB_pI, ← hX]; rfl
  · rw [zB_pI, ← hX]; rfl
  · rw [zB_pI, ← hX]; rfl
  · rw [zA_pI, ← hX, zA_sA, if_neg (by decide), zA_sA, if_neg (by decide), zA_sA, if_pos rfl]
  · rw [zA_pI, ← hX, zA_sA, if_neg (by decide), zA_sA, if_pos rfl]
  · rw [zA_pI, ← hX, zA_sA, if_neg (by decide), zA_sA, if_neg (by decide), zA_sA, if_neg (by decide), zA_sA, if_pos rfl]
  · rw [zA_pI, ← hX, zA_sA, if_pos rfl]
  · rw [zA_pI, ← hX, zA_sA, if_neg (by decide), zA_sA, if_neg (by decide), zA_sA, if_neg (by decide), zA_sA, if_neg (by decide)]; rfl
  · rw [zI_pI, if_neg (by decide), if_pos rfl, Nat.add_zero, ← hX]; exact h8
  · rw [x3, nI_1]
    exact IS.pI 3 _ hI (show (0 : Int) ≤ (nI (b + 1)).toInt ∧ (nI (b + 1)).toInt ≤ 11 by omega)
theorem upd_at (f : Nat → Int32) (k : Nat) (x : Int32) (j : Nat) : upd f k x j = if j = k then x else f j := rfl
theorem LR_bell {M z V V' : zSt} {h b k k' e d p q : Nat} {w : Int64} {herd : Int32} (hLR : LR M V h b k e d) (hk : k' ≤ 9 ∧ k' ≤ b + 1 ∧ b + 1 - k' ≤ 2) (hkc : k' = k + if herd = -1 then 0 else 1) (hw : ¬ inN (zB V 4) b w) (hV : VG V V' b k' (bset (isB V) b) w p q herd) (hq : 1 ≤ q ∧ q ≤ 99)
    (h23 : zI z 23 = nI (b + 1)) (h24 : zI z 24 = nI k') (h25 : zI z 25 = nI (b + 1 - k')) (hI : ∀ i, i = 22 ∨ i = 26 ∨ i = 27 → zI z i = zI M i)
    (hA : zA z 14 = zA M 14 ∧ zA z 11 = upd (zA M 11) b (nI p) ∧ zA z 12 = upd (zA M 12) b (nI q) ∧ zA z 13 = upd (zA M 13) b herd ∧ zA z 15 = upd (zA M 15) b 0) (hB : ∀ l, zB z 10 l = if l = 16 + b then w else zB M 10 l) : LR z V' h (b + 1) k' e d := by
  obtain ⟨⟨l1, l2, l3, l4, l5, l6⟩, ⟨v1, v2, v3, v4, v5⟩, ⟨b1, b2, b3, b4, b5, b6⟩, ⟨n1, n2⟩, ⟨n3, n4⟩, ⟨n5, n6⟩, ⟨m1, m2, m3⟩⟩ := hLR
  obtain ⟨⟨c0, c12, c11⟩, ⟨c3, c9⟩, ⟨d1, d13, d4⟩, ⟨a5, a6, a7, a10, a14⟩, c8, cI⟩ := hV
  obtain ⟨r14, r11, r12, r13, r15⟩ := hA
  have hV4 : ∀ l, zB V' 4 l = if l = b then w else zB V 4 l := fun l => by rw [d4]; rfl
  have hiB : ∀ i, i < b → isB V i = isB V' i := fun i hi => by
    unfold isB
    rw [a7, upd_at, if_neg (by omega)]
  have hiBb : isB V' b = decide (¬ herd = -1) := by
    unfold isB
    rw [a7, upd_at, if_pos rfl]
  refine ⟨⟨by rw [hI 22 (by decide)]; exact l1, h23, h24, h25, by rw [hI 26 (by decide)]; exact l5, by rw [hI 27 (by decide)]; exact l6⟩, ⟨by rw [c0]; exact v1, c3, c9, by rw [c12]; exact v4, by rw [c11]; exact v5⟩, ⟨b1, by omega, by omega, by omega, b5, b6⟩, ⟨fun i hi => ?_, ?_⟩, ⟨fun i hi => ?_, fun i l hi hl hh => ?_, fun i hi => ?_⟩, ⟨fun i hi => ?_, ?_⟩, ⟨?_, ?_, cI⟩⟩
  · rw [hB i, if_neg (by omega), d1]; exact n1 i hi
  · rw [d1]; exact n2
  · rw [hB (16 + i), hV4 i, r11, r12, r13, r15, a5, a6, a7, a10]
    simp only [upd_at]
    by_cases e : i = b
    · rw [if_pos (by omega), if_pos e, if_pos e, if_pos e, if_pos e, if_pos e, if_pos e, if_pos e, if_pos e, if_pos e]
      exact ⟨rfl, rfl, rfl, rfl, rfl⟩
    · rw [if_neg (by omega), if_neg e, if_neg e, if_neg e, if_neg e, if_neg e, if_neg e, if_neg e, if_neg e, if_neg e]
      exact n3 i (by omega)
  · rw [hV4 i, hV4 l] at hh
    by_cases ei : i = b
    · by_cases el : l = b
      · omega
      · rw [if_pos ei, if_neg el] at hh
        exact absurd ⟨l, by omega, hh.symm⟩ hw
    · by_cases el : l = b
      · rw [if_neg ei, if_pos el] at hh
        exact absurd ⟨i, by omega, hh⟩ hw
      · rw [if_neg ei, if_neg el] at hh
        exact n4.1 i l (by omega) (by omega) hh
  · rw [a6, upd_at]
    by_cases e : i = b
    · rw [if_pos e, nI_toInt (by omega)]; omega
    · rw [if_neg e]; exact n4.2 i (by omega)
  · rw [hB (32 + i), if_neg (by omega), r14, a14, d13]; exact n5 i hi
  · rw [d13]; exact n6
  · rw [c8]
    show nI (bset (isB V) b + _) = nI (bset (isB V') b + if isB V' b then 2 ^ b else 0)
    rw [bset_congr b hiB, hiBb]
    by_cases q : herd = -1
    · rw [if_pos q, if_neg (by simp [q])]
    · rw [if_neg q, if_pos (by simp [q])]
  · show k' = bcnt (isB V') b + if isB V' b then 1 else 0
    rw [← bcnt_congr b hiB, hiBb, ← m2, hkc]
    by_cases q : herd = -1
    · rw [if_pos q, if_neg (by simp [q])]
    · rw [if_neg q, if_pos (by simp [q])]
/-- the reference between a new name and a bell -/
def mP (M S : zSt) (i : Nat) (w : Int64) : Prop := (∀ k, 9 ≤ k → zI S k = zI M k) ∧ zI S 1 = zI M 1 ∧ zA S = zA M ∧ ∀ l, zB S 10 l = if l = i then w else zB M 10 l
theorem mN.mP {M y : zSt} {T : Nat → Nat} {n j i : Nat} {w : Int64} {ks : List Nat} (h : mN M y T n j i w) (hk : ks.contains 10 = false) : mP M (zmg ks y M) i w :=
  ⟨fun k hk => h.1 k (by omega) (by omega) (by omega) (by omega) (by omega) (by omega), h.1 1 (by decide) (by decide) (by decide) (by decide) (by decide) (by decide), zmg_A h.2.1, fun l => by rw [zB_mg, if_neg (by rw [hk]; decide)]; exact h.2.2.2.1 l⟩
theorem mP.k {M a z : zSt} {i : Nat} {w : Int64} (h : mP M a i w) (k : mK a z) : mP M z i w :=
  ⟨fun x hx => (k.1 x (by omega) (by omega) (by omega) (by omega) (by omega) (by omega)).trans (h.1 x hx), (k.1 1 (by decide) (by decide) (by decide) (by decide) (by decide) (by decide)).trans h.2.1, k.2.1.trans h.2.2.1, fun l => by rw [k.2.2]; exact h.2.2.2 l⟩
theorem mP.mL {M a : zSt} {i : Nat} {w : Int64} (h : mP M a i w) : mL M a := ⟨fun k hk => h.1 k (by omega), h.2.1, by rw [h.2.2.1]⟩
theorem stranger_line {N : Nat} (hN : 1600 ≤ N) {T : Nat → Nat} {n m j pl0 nu0 nx0 h b k e d : Nat} {w0 : Int64} {M V sT sR : zSt} (hLR : LR M V h b k e d) (hs : b - k < 2) (hM : moC M T n j 1 pl0 w0 nu0 nx0) (h2 : zI M 2 = 0) (hR : rdR sR T n m) (hE : m = 205 ∨ rdE T n m) (hT3 : zI sT 3 = nI (j + 1)) (hj : j + 7 ≤ 205) :
    ∃ c z1 z, Teller_tellStranger N sT V sR = some c ∧ Mo_readStranger N M = some z1 ∧ Mo_readLine_b132 N (zmg [14] z1 M) = some z ∧ LO T n (j + 7) M (fun z v => LR z v h (b + 1) k e d ∧ KP [1, 13, 14] V v) sT c z := by
  have hLR0 := hLR
  obtain ⟨⟨l1, l2, l3, l4, l5, l6⟩, ⟨v1, v2, v3, v4, v5⟩, ⟨b1, b2, b3, b4, b5, b6⟩, _, ⟨n3, n4⟩, _, ⟨m1, m2, m3⟩⟩ := hLR
  have hb11 : b < 11 := by omega
  have hrun : Teller_tellStranger N sT V sR = (Teller_takeNewName N sT 11 (zB V 4) sR (nI b)).bind (fun z2 => if z2.1 = 0 then (some (0, z2.2, V)) else ((Teller_tellBell N z2.2 V sR (zL z2.2 5) (-1)).bind (fun z5 => zcb z5.1 (some (z5.1, z5.2.1, z5.2.2))))) := by
    unfold Teller_tellStranger Teller_tellStranger_b0
    rw [v2, v3, nI_subI b3 (by omega), if_pos ((zltL (k := 2) (by omega) (by decide)).mpr hs)]
  have hmo : ∀ y Z, Mo_newName N M 16 (zI M 23) = some y → Mo_readBell N (zmg [11, 12, 13, 15] y M) (-1) = some Z → Mo_readStranger N M = some (if zI Z 2 = 0 then zpI (zmg [10] Z (zmg [11, 12, 13, 15] y M)) 25 (zI Z 25 + 1) else zmg [10] Z (zmg [11, 12, 13, 15] y M)) := by
    intro y Z e1 e2
    unfold Mo_readStranger Mo_readStranger_b0
    rw [e1]
    simp only [zbs]
    rw [e2]
    simp only [zbs]
    split <;> rfl
  rw [hrun]
  rcases new_two hN (bb := 16) (n1 := 11) hM h2 hR hE (by omega) hT3 (show b ≤ 11 by omega) (by decide) (by omega) (fun i hi => (n3 i hi).1) with ⟨t1, w, y, hkw, hin, e1, g1, g2, ey, hy⟩ | ⟨t1, y, F, P, p0, p5, e1, g1, ey, y1, y2⟩
  · have ey : Mo_newName N M 16 (zI M 23) = some y := by rw [l2]; exact ey
    have hP : mP M (zmg [11, 12, 13, 15] y M) (16 + b) w := hy.mP rfl
    obtain ⟨so2, pl2, w2, nu2, nx2, y6⟩ := hy.2.2.2.2.2
    have ym : moC (zmg [11, 12, 13, 15] y M) T n (j + 2) so2 pl2 w2 nu2 nx2 := y6.mg hy.2.1
    have yb : zI (zmg [11, 12, 13, 15] y M) 23 = nI b := by rw [hP.1 23 (by decide)]; exact l2
    have y2 : zI (zmg [11, 12, 13, 15] y M) 2 = 0 := hy.2.2.2.2.1
    rw [e1]
    simp only [zbs]
    rw [if_neg (by decide)]
    have hmo := hmo y
    generalize zmg [11, 12, 13, 15] y M = S at hP ym yb y2 hmo
    rcases bell_two (N := N) (V := V) (nm := zL t1 5) (herd := -1) hN ym y2 yb hb11 hR hE (by omega) g1.1 with ⟨t4, p, q, Z, p2, q1, q2, er, g4, ez, u1, ⟨so4, pl4, w4, nu4, nx4, uc⟩, uI, uI1, ⟨uA, u11, u12, u13, u15⟩, uB⟩ | ⟨t2, Z, F, P, p0, p5, er, g3, ez, ZL, ZF⟩
    · have hmo := hmo Z ey ez
      rw [if_pos u1] at hmo
      rw [er]
      have QI : ∀ i, zI (zmg [14] (zpI (zmg [10] Z S) 25 (zI Z 25 + 1)) M) i = if i = 25 then zI Z 25 + 1 else zI Z i := fun i => by rw [zI_mg, zI_pI, zI_mg]
      have QA : ∀ i, ¬ i = 14 → ¬ i = 10 → zA (zmg [14] (zpI (zmg [10] Z S) 25 (zI Z 25 + 1)) M) i = zA Z i := fun i h14 h10 => by
        rw [zA_mg, if_neg (by simpa using h14), zA_pI, zA_mg, if_neg (by simpa using h10)]
      have Q14 : zA (zmg [14] (zpI (zmg [10] Z S) 25 (zI Z 25 + 1)) M) 14 = zA M 14 := by rw [zA_mg, if_pos (by decide)]
      have QB : ∀ l, zB (zmg [14] (zpI (zmg [10] Z S) 25 (zI Z 25 + 1)) M) 10 l = if l = 16 + b then w else zB M 10 l := fun l => by
        rw [zB_mg, if_neg (by decide), zB_pI, zB_mg, if_pos (by decide)]; exact hP.2.2.2 l
      have QL : zL (zmg [14] (zpI (zmg [10] Z S) 25 (zI Z 25 + 1)) M) = zL Z := rfl
      have Z25 : zI Z 25 = nI (b - k) := by rw [uI 25 (by decide), if_neg (by decide), hP.1 25 (by decide)]; exact l4
      have qm : moC (zmg [14] (zpI (zmg [10] Z S) 25 (zI Z 25 + 1)) M) T n (j + 6) so4 pl4 w4 nu4 nx4 := uc.of (fun i hi => by rw [QI, if_neg (by omega)]) (by rw [QL]) (QA 0 (by decide) (by decide))
      have q2' : zI (zmg [14] (zpI (zmg [10] Z S) 25 (zI Z 25 + 1)) M) 2 = 0 := by rw [QI, if_neg (by decide)]; exact u1
      have qL : mL M (zmg [14] (zpI (zmg [10] Z S) 25 (zI Z 25 + 1)) M) := ⟨fun i hi => by rw [QI, if_neg (by omega), uI i (by omega), if_neg (by omega)]; exact hP.1 i (by omega), by rw [QI, if_neg (by decide), uI1]; exact hP.2.1, by rw [QA 0 (by decide) (by decide), uA 0 (by decide), hP.2.2.1]⟩
      rcases close_ok (N := N) hN qm q2' hR hE (by omega) g4.1 with ⟨_, t5, z, e4, ez4, g5, zz⟩ | ⟨t5, z, F, P, e4, ez4, p0, p5, g5, zk, zF⟩
      · obtain ⟨V', eV, hV⟩ := addBell_S (N := N) (w := zL t1 5) (p := p) (q := q) v2 hb11 v3 m1 m3 p2 q2
        rw [e4]
        simp only [zbs]
        rw [if_neg (by decide), eV]
        simp only [zbs]
        rw [zcb_in (Or.inr rfl)]
        refine ⟨_, _, z, rfl, hmo, ez4, qL.trans zz.1.mL, Or.inr ⟨rfl, g5.1, g5.2.1.trans (g4.2.1.trans g1.2.1), g5.2.2.trans (g4.2.2.trans g1.2.2), zz.2.1, zz.2.2, ?_, ⟨fun _ => hV.2.2.1.1, fun q => absurd q (by decide), fun _ => hV.2.2.1.2.1, fun q => absurd q (by decide), fun q => absurd q (by decide), fun q => absurd q (by decide), fun q => absurd q (by decide), fun _ => hV.2.2.2.1.2.2.2.2⟩⟩⟩
        have zI9 : ∀ i, 9 ≤ i → zI z i = if i = 25 then zI Z 25 + 1 else zI Z i := fun i hi => by rw [zz.1.1 i (by omega) (by omega) (by omega) (by omega) (by omega) (by omega)]; exact QI i
        rw [g2] at hV
        refine LR_bell hLR0 (k' := k) ⟨b2, by omega, by omega⟩ (by rw [if_pos rfl]; rfl) hin hV ⟨q1, q2⟩ ?_ ?_ ?_ (fun i hi => ?_) ⟨?_, ?_, ?_, ?_, ?_⟩ (fun l => ?_)
        · rw [zI9 23 (by decide), if_neg (by decide), uI 23 (by decide), if_pos rfl]
        · rw [zI9 24 (by decide), if_neg (by decide), uI 24 (by decide), if_neg (by decide), hP.1 24 (by decide)]; exact l3
        · rw [zI9 25 (by decide), if_pos rfl, Z25, nI_1, show b - k + 1 = b + 1 - k by omega]
        · rw [zI9 i (by omega), if_neg (by omega), uI i (by omega), if_neg (by omega), hP.1 i (by omega)]
        · rw [zz.1.2.1]; exact Q14
        · rw [zz.1.2.1, QA 11 (by decide) (by decide), u11, hP.2.2.1]
        · rw [zz.1.2.1, QA 12 (by decide) (by decide), u12, hP.2.2.1]
        · rw [zz.1.2.1, QA 13 (by decide) (by decide), u13, hP.2.2.1]
        · rw [zz.1.2.1, QA 15 (by decide) (by decide), u15, hP.2.2.1]
        · rw [zz.1.2.2]; exact QB l
      · rw [e4]
        simp only [zbs]
        rw [if_pos trivial]
        simp only [zbs]
        rw [zcb_in (Or.inl rfl)]
        exact ⟨_, _, z, rfl, hmo, ez4, qL.trans zk.mL, Or.inl ⟨rfl, m3, F, P, p0, p5, g5, zF⟩⟩
    · have hmo := hmo Z ey ez
      rw [if_neg (ZF.ne p0 p5).2] at hmo
      have ZF' : mF (zmg [14] (zmg [10] Z S) M) F P := ZF
      rw [er]
      simp only [zbs]
      rw [zcb_in (Or.inl rfl)]
      refine ⟨_, _, _, rfl, hmo, Mo_lineEnd_F ZF' p0 p5, ⟨fun i hi => (ZL.1 i hi).trans (hP.1 i (by omega)), ZL.2.1.trans hP.2.1, ?_⟩, Or.inl ⟨rfl, m3, F, P, p0, p5, g3, ZF'⟩⟩
      rw [zA_mg, if_neg (by decide), zA_mg, if_neg (by decide), ZL.2.2, hP.2.2.1]
  · have ey : Mo_newName N M 16 (zI M 23) = some y := by rw [l2]; exact ey
    have yF : mF (zmg [11, 12, 13, 15] y M) F P := y2
    have yb : zI (zmg [11, 12, 13, 15] y M) 23 = nI b := by rw [zI_mg, y1.1 23 (by decide) (by decide) (by decide) (by decide) (by decide) (by decide)]; exact l2
    obtain ⟨Z, ez, ZI, Z0⟩ := Mo_readBell_FF (N := N) (herd := -1) yb hb11 p0 p5 yF
    have hmo := hmo y Z ey ez
    have ZF : mF Z F P := ⟨by rw [ZI]; exact yF.1, by rw [ZI]; exact yF.2⟩
    rw [if_neg (ZF.ne p0 p5).2] at hmo
    have ZF' : mF (zmg [14] (zmg [10] Z (zmg [11, 12, 13, 15] y M)) M) F P := ZF
    have yL := y1.mg (ks := [11, 12, 13, 15]).mL
    rw [e1]
    simp only [zbs]
    rw [if_pos trivial]
    refine ⟨_, _, _, rfl, hmo, Mo_lineEnd_F ZF' p0 p5, ⟨fun i hi => ?_, ?_, ?_⟩, Or.inl ⟨rfl, m3, F, P, p0, p5, g1, ZF'⟩⟩
    · rw [zI_mg, zI_mg, ZI]; exact yL.1 i hi
    · rw [zI_mg, zI_mg, ZI]; exact yL.2.1
    · rw [zA_mg, if_neg (by decide), zA_mg, if_neg (by decide), Z0]; exact yL.2.2
