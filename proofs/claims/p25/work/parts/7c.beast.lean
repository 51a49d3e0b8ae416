/-! the line of a beast -/
theorem nI_ne1 {g : Nat} (h : g < 1000) : ¬ nI g = -1 := by
  intro q
  have := congrArg Int32.toInt q
  rw [nI_toInt (by omega)] at this
  have e : ((-1) : Int32).toInt = -1 := by decide
  omega
theorem addBell_B {N b k B p q g : Nat} {V : zSt} {w : Int64} (hb : zI V 3 = nI b) (hb11 : b < 11) (hk : zI V 9 = nI k) (hk9 : k < 9) (h8 : zI V 8 = nI B) (hB : B < 2 ^ b) (hV : I_Valley V) (hp : p ≤ 11) (hq : q ≤ 99) (hg : g < 3) : ∃ V', Valley_addBell N V w (nI g) (nI p) (nI q) = some V' ∧ VG V V' b (k + 1) B w p q (nI g) := by
  have hp2 : 2 ^ b ≤ 2 ^ 10 := Nat.pow_le_pow_right (by decide) (by omega)
  have hor : nI B ||| ((1 : Int32) <<< (nI b &&& 31)) = nI (B + 2 ^ b) := by rw [tshl_all b (by omega), nI_or (by omega) (by omega), or_pow hB]
  unfold Valley_addBell Valley_addBell_b0
  rw [hb, zck_in (vp_in_nI hb11 (by decide)), zck_in (vp_in_nI hb11 (by decide)), zck_in (vp_in_nI hb11 (by decide)), zck_in (vp_in_nI hb11 (by decide)), zck_in (vp_in_nI hb11 (by decide)), nI_clamp (by omega), if_neg (nI_ne1 (by omega)), zck_in (vp_in_nI hg (by decide)), zck_in (vp_in_nI hg (by decide)), h8, hor, nI_clamp (n := g) (by omega)]
  unfold Valley_addBell_b87 Valley_addBell_b97
  have e3 := nI_toInt (n := b + 1) (by omega)
  have e9 := nI_toInt (n := k + 1) (by omega)
  have e8 := nI_toInt (n := B + 2 ^ b) (by omega)
  have eg := nI_toInt (n := g) (by omega)
  have hI := addBell_I (b := b) (w := w) (herd := nI g) hV hp hq (by omega)
  generalize upd (zA V 2) g (zA V 2 g ||| ((1 : Int32) <<< (nI b &&& 31))) = f2
  generalize hX : zsA (zsA (zsA (zsA (zsB V 4 (vp_updL (zB V 4) b w)) 7 (upd (zA V 7) b (nI g))) 5 (upd (zA V 5) b (nI p))) 6 (upd (zA V 6) b (nI q))) 10 (upd (zA V 10) b 0) = X at hI ⊢
  have x3 : zI X 3 = nI b := by rw [← hX]; exact hb
  have x9 : zI X 9 = nI k := by rw [← hX]; exact hk
  have s9 : zI (zsA (zpI X 8 (nI (B + 2 ^ b))) 2 f2) 9 + 1 = nI (k + 1) := by rw [zI_sA, zI_pI, if_neg (by decide), x9, nI_1]
  rw [s9]
  have s3 : zI (zpI (zsA (zpI X 8 (nI (B + 2 ^ b))) 2 f2) 9 (nI (k + 1))) 3 + 1 = nI (b + 1) := by rw [zI_pI, if_neg (by decide), zI_sA, zI_pI, if_neg (by decide), x3, nI_1]
  rw [s3]
  have JI : ∀ i, ¬ i = 3 → ¬ i = 9 → ¬ i = 8 → zI (zpI (zpI (zsA (zpI X 8 (nI (B + 2 ^ b))) 2 f2) 9 (nI (k + 1))) 3 (nI (b + 1))) i = zI X i := fun i h3 h9 h8 => by
    rw [zI_pI, if_neg h3, zI_pI, if_neg h9, zI_sA, zI_pI, if_neg h8]
  have JA : ∀ i, ¬ i = 2 → zA (zpI (zpI (zsA (zpI X 8 (nI (B + 2 ^ b))) 2 f2) 9 (nI (k + 1))) 3 (nI (b + 1))) i = zA X i := fun i h2 => by
    rw [zA_pI, zA_pI, zA_sA, if_neg h2, zA_pI]
  have JB : ∀ i, zB (zpI (zpI (zsA (zpI X 8 (nI (B + 2 ^ b))) 2 f2) 9 (nI (k + 1))) 3 (nI (b + 1))) i = zB X i := fun i => by
    rw [zB_pI, zB_pI, zB_sA, zB_pI]
  refine ⟨_, rfl, ⟨?_, ?_, ?_⟩, ⟨?_, ?_⟩, ⟨?_, ?_, ?_⟩, ⟨?_, ?_, ?_, ?_, ?_⟩, ?_, ?_⟩
  · rw [JI 0 (by decide) (by decide) (by decide), ← hX]; rfl
  · rw [JI 12 (by decide) (by decide) (by decide), ← hX]; rfl
  · rw [JI 11 (by decide) (by decide) (by decide), ← hX]; rfl
  · rw [zI_pI, if_pos rfl]
  · rw [zI_pI, if_neg (by decide), zI_pI, if_pos rfl]
  · rw [JB, ← hX]; rfl
  · rw [JB, ← hX]; rfl
  · rw [JB, ← hX]; rfl
  · rw [JA 5 (by decide), ← hX, zA_sA, if_neg (by decide), zA_sA, if_neg (by decide), zA_sA, if_pos rfl]
  · rw [JA 6 (by decide), ← hX, zA_sA, if_neg (by decide), zA_sA, if_pos rfl]
  · rw [JA 7 (by decide), ← hX, zA_sA, if_neg (by decide), zA_sA, if_neg (by decide), zA_sA, if_neg (by decide), zA_sA, if_pos rfl]
  · rw [JA 10 (by decide), ← hX, zA_sA, if_pos rfl]
  · rw [JA 14 (by decide), ← hX, zA_sA, if_neg (by decide), zA_sA, if_neg (by decide), zA_sA, if_neg (by decide), zA_sA, if_neg (by decide)]; rfl
  · rw [zI_pI, if_neg (by decide), zI_pI, if_neg (by decide), zI_sA, zI_pI, if_pos rfl, if_neg (nI_ne1 (by omega))]
  · exact IS.pI 3 _ (IS.pI 9 _ (IS.sA 2 _ (IS.pI 8 _ hI (show (0 : Int) ≤ (nI (B + 2 ^ b)).toInt ∧ (nI (B + 2 ^ b)).toInt ≤ 2047 by omega)) (fun _ => tr _)) (show (0 : Int) ≤ (nI (k + 1)).toInt ∧ (nI (k + 1)).toInt ≤ 9 by omega)) (show (0 : Int) ≤ (nI (b + 1)).toInt ∧ (nI (b + 1)).toInt ≤ 11 by omega)
theorem VG.mg {V V' : zSt} {b k B p q : Nat} {w : Int64} {herd : Int32} (hV : VG V V' b k B w p q herd) (h0 : I_Valley V) : VG V (zmg [1] V' V) b k B w p q herd := by
  obtain ⟨c, c2, ⟨d1, d13, d4⟩, ⟨a5, a6, a7, a10, a14⟩, c8, cI⟩ := hV
  refine ⟨c, c2, ⟨?_, ?_, ?_⟩, ⟨?_, ?_, ?_, ?_, ?_⟩, c8, IS.mg _ cI h0⟩
  · rw [zB_mg, if_pos (by decide)]
  · rw [zB_mg, if_neg (by decide)]; exact d13
  · rw [zB_mg, if_neg (by decide)]; exact d4
  · rw [zA_mg, if_neg (by decide)]; exact a5
  · rw [zA_mg, if_neg (by decide)]; exact a6
  · rw [zA_mg, if_neg (by decide)]; exact a7
  · rw [zA_mg, if_neg (by decide)]; exact a10
  · rw [zA_mg, if_neg (by decide)]; exact a14
/-- a herd's name, on both sides -/
theorem herd_two {N : Nat} (hN : 1600 ≤ N) {T : Nat → Nat} {n m j so pl nu nx h : Nat} {w : Int64} {S t sR : zSt} {f : Nat → Int64} (hm : moC S T n j so pl w nu nx) (h2 : zI S 2 = 0) (hR : rdR sR T n m) (hE : m = 205 ∨ rdE T n m) (hj : j < 205) (h3 : zI t 3 = nI j) (hh : h ≤ 3) (hf : ∀ i, i < h → zB S 10 i = f i) (hd : ∀ i l, i < h → l < h → f i = f l → i = l) :
    (∃ t1 g Y, g < h ∧ Teller_takeName N t sR = some (1, t1) ∧ tG t t1 j ∧ Teller_find N 3 f (zL t1 5) (nI h) = some (nI g) ∧ Mo_find N S 0 (nI h) = some (nI g) ∧ Mo_isName N S = some 1 ∧ Mo_token N S = some Y ∧ mG S Y T n (j + 1)) ∨
    (∃ t1 F P r Y, 0 < F ∧ F ≤ 5 ∧ Teller_takeName N t sR = some (0, t1) ∧ tF t1 F P ∧ Mo_find N S 0 (nI h) = some r ∧ Mo_isName N S = some 0 ∧ Mo_wrong N S 2 = some Y ∧ mK S Y ∧ mF Y F P) ∨
    (∃ t1 P Y, Teller_takeName N t sR = some (1, t1) ∧ zI t1 4 = nI P ∧ Teller_find N 3 f (zL t1 5) (nI h) = some (-1) ∧ Mo_find N S 0 (nI h) = some (-1) ∧ Mo_isName N S = some 1 ∧ Mo_wrong N S 5 = some Y ∧ mK S Y ∧ mF Y 5 P) := by
  have hc := hm.2.1
  have hso := hc.so
  have h6 := hm.2.2.1
  have h9 := hm.2.2.2.2.1
  obtain ⟨ty, tn⟩ := Teller_takeName_ok (N := N) hR (hc.lt hj hE) hc h3
  obtain ⟨r, hr, er⟩ := Mo_find_ok (N := N) (s := S) (b := 0) (c := h) (by omega) hN
  have er : Mo_find N S 0 (nI h) = some r := er
  by_cases hok : so = 1 ∧ ¬ isKw w
  · obtain ⟨t1, e1, g1, g2, g3⟩ := ty hok
    have en : Mo_isName N S = some 1 := Mo_isName_y (by rw [h6, hok.1]; rfl) (by rw [h9]; exact hok.2)
    obtain ⟨r2, hr2, er2⟩ := Teller_find_ok (N := N) (f := f) (w := zL t1 5) (n0 := 3) (c := h) hh (by decide) hN
    rw [h9] at hr
    rw [g3] at hr2
    have e : r2 = r := isFd.uniq (by omega) (fun i hi => by rw [Nat.zero_add]; exact (hf i hi).symm) hd hr2 hr
    subst e
    rcases hr2 with ⟨q1, q2⟩ | ⟨g, q1, q2, q3⟩
    · obtain ⟨Y, eY, y1, y2, y3⟩ := Mo_wrong_ok (N := N) hm h2 5
      have y2 : mF Y (zfl so 5) pl := y2
      rw [show zfl so 5 = 5 from if_neg (by omega)] at y2
      subst q1
      exact Or.inr (Or.inr ⟨t1, pl, Y, e1, g2, er2, er, en, eY, y1, y2⟩)
    · obtain ⟨Y, eY, hY⟩ := Mo_token_G (N := N) hN hm h2 (by omega) (by omega)
      subst q2
      exact Or.inl ⟨t1, g, Y, q1, e1, g1, er2, er, en, eY, hY⟩
  · obtain ⟨t1, e1, g1⟩ := tn hok
    have en : Mo_isName N S = some 0 := Mo_isName_n (by
      by_cases q : so = 1
      · exact Or.inr (by rw [h9]; exact Classical.byContradiction fun z => hok ⟨q, z⟩)
      · exact Or.inl (fun z => q ((zeqL (k := 1) (by omega) (by decide)).mp (h6 ▸ z))))
    obtain ⟨Y, eY, y1, y2, y3⟩ := Mo_wrong_ok (N := N) hm h2 2
    exact Or.inr (Or.inl ⟨t1, _, _, r, Y, zfl_pos (by decide), zfl_le (by decide), e1, g1, er, en, eY, y1, y2⟩)
/-- the reference behind the herd's name, with a fault -/
theorem Mo_beast_F {N b F P : Nat} {S : zSt} {r : Int32} (hb : zI S 23 = nI b) (hb11 : b < 11) (p0 : 0 < F) (p5 : F ≤ 5) (hF : mF S F P) : ∃ Z, Mo_readBeast_b59 N S r = some Z ∧ zI Z = zI S ∧ zA Z 0 = zA S 0 := by
  obtain ⟨Z, ez, ZI, Z0⟩ := Mo_readBell_FF (N := N) (herd := r) hb hb11 p0 p5 hF
  unfold Mo_readBeast_b59
  rw [if_neg (hF.ne p0 p5).2]
  unfold Mo_readBeast_b70
  rw [ez]
  simp only [zbs]
  rw [if_neg (by rw [ZI]; exact (hF.ne p0 p5).2)]
  exact ⟨_, rfl, ZI, by rw [zA_mg, if_neg (by decide)]; exact Z0⟩
theorem mP.mg {M n o : zSt} {i : Nat} {w : Int64} {ks : List Nat} (h : mP M n i w) (k : mP M o i w) : mP M (zmg ks n o) i w := by
  refine ⟨h.1, h.2.1, ?_, fun l => ?_⟩
  · funext j
    rw [zA_mg]
    split
    · rw [k.2.2.1]
    · rw [h.2.2.1]
  · rw [zB_mg]
    split
    · exact k.2.2.2 l
    · exact h.2.2.2 l
theorem moC.mgP {z s : zSt} {T : Nat → Nat} {n j so pl nu nx : Nat} {w : Int64} {ks : List Nat} (h : moC z T n j so pl w nu nx) (k : zA z 0 = zA s 0) : moC (zmg ks z s) T n j so pl w nu nx :=
  h.of (fun _ _ => rfl) rfl (by rw [zA_mg]; split; exact k.symm; rfl)
