/-! the line of an ear -/
theorem Mo_told_ok {N : Nat} (hN : 1600 ≤ N) {T : Nat → Nat} {n j so pl nu nx so2 pl2 nu2 nx2 : Nat} {w w2 : Int64} {s : zSt} (h : moC s T n j so pl w nu nx) (h2 : zI s 2 = 0) (v : Int64) (lo hi : Nat) (hlo : lo < 1000) (hhi : hi < 1000) (hc2 : so = 1 → CT T n (j + 1) so2 pl2 w2 nu2 nx2) :
    ((so = 1 ∧ w = v) → (so2 = 2 ∧ lo ≤ nu2 ∧ nu2 ≤ hi) → ∃ z, Mo_told N s v (nI lo) (nI hi) = some (nI nu2, z) ∧ mG s z T n (j + 2)) ∧
    ((so = 1 ∧ w = v) → ¬ (so2 = 2 ∧ lo ≤ nu2 ∧ nu2 ≤ hi) → ∃ r z, Mo_told N s v (nI lo) (nI hi) = some (r, z) ∧ mK s z ∧ mF z (zfl so2 (if so2 = 2 then 4 else 2)) pl2) ∧
    (¬ (so = 1 ∧ w = v) → ∃ r z, Mo_told N s v (nI lo) (nI hi) = some (r, z) ∧ mK s z ∧ mF z (zfl so 2) pl) := by
  obtain ⟨wy, wn⟩ := Mo_want_ok (N := N) hN h h2 v
  unfold Mo_told Mo_told_b0
  refine ⟨fun a => ?_, fun a => ?_, fun a => ?_⟩
  · obtain ⟨z, e, k1, k2, t1, t2, t3, t4, t5, k3⟩ := wy a
    obtain ⟨u1, u2, u3, u4, u5⟩ := CT.uniq k3.2.1 (hc2 a.1)
    subst u1 u2 u3 u4 u5
    intro a2
    obtain ⟨z', e', g1, g2, g3⟩ := (Mo_toldNumber_ok (N := N) hN k3 k2 lo hi hlo hhi).1 a2
    rw [e]
    simp only [zbs]
    rw [e']
    exact ⟨z', rfl, k1.trans g1, g2, g3⟩
  · obtain ⟨z, e, k1, k2, t1, t2, t3, t4, t5, k3⟩ := wy a
    obtain ⟨u1, u2, u3, u4, u5⟩ := CT.uniq k3.2.1 (hc2 a.1)
    subst u1 u2 u3 u4 u5
    intro a2
    obtain ⟨r, z', e', g1, g2⟩ := (Mo_toldNumber_ok (N := N) hN k3 k2 lo hi hlo hhi).2 a2
    rw [e]
    simp only [zbs]
    rw [e']
    exact ⟨r, z', rfl, k1.trans g1, g2⟩
  · obtain ⟨z, e, k1, k2⟩ := wn a
    rw [e]
    simp only [zbs]
    rw [Mo_toldNumber_F (k2.ne (zfl_pos (by decide)) (zfl_le (by decide))).1]
    exact ⟨0, z, rfl, k1, k2⟩
theorem Mo_told_n {N : Nat} (hN : 1600 ≤ N) {T : Nat → Nat} {n j so pl nu nx : Nat} {w : Int64} {s : zSt} (h : moC s T n j so pl w nu nx) (h2 : zI s 2 = 0) (v : Int64) (lo hi : Int32) (a : ¬ (so = 1 ∧ w = v)) : ∃ r z, Mo_told N s v lo hi = some (r, z) ∧ mK s z ∧ mF z (zfl so 2) pl := by
  obtain ⟨wy, wn⟩ := Mo_want_ok (N := N) hN h h2 v
  obtain ⟨z, e, k1, k2⟩ := wn a
  unfold Mo_told Mo_told_b0
  rw [e]
  simp only [zbs]
  rw [Mo_toldNumber_F (k2.ne (zfl_pos (by decide)) (zfl_le (by decide))).1]
  exact ⟨0, z, rfl, k1, k2⟩
/-- told, on both sides: a word that stands for itself, and a number -/
theorem told_two {N : Nat} (hN : 1600 ≤ N) {T : Nat → Nat} {n m j so pl nu nx : Nat} {w : Int64} {s t sR : zSt} (h : moC s T n j so pl w nu nx) (h2 : zI s 2 = 0) (hR : rdR sR T n m) (hE : m = 205 ∨ rdE T n m) (hj : j + 1 < 205) (h3 : zI t 3 = nI j) (v : Int64) (lo hi : Nat) (hlo : lo < 1000) (hhi : hi < 1000) :
    (∃ t1 t2 p z, lo ≤ p ∧ p ≤ hi ∧ Teller_takeWord N t sR v = some (1, t1) ∧ Teller_takeNumber N t1 sR (nI lo) (nI hi) = some (1, t2) ∧ tG t t2 (j + 1) ∧ zL t2 5 = lN p ∧ Mo_told N s v (nI lo) (nI hi) = some (nI p, z) ∧ mG s z T n (j + 2)) ∨
    (∃ r z F P, 0 < F ∧ F ≤ 5 ∧ Mo_told N s v (nI lo) (nI hi) = some (r, z) ∧ mK s z ∧ mF z F P ∧ ((∃ t1, Teller_takeWord N t sR v = some (0, t1) ∧ tF t1 F P) ∨ (∃ t1 t2, Teller_takeWord N t sR v = some (1, t1) ∧ Teller_takeNumber N t1 sR (nI lo) (nI hi) = some (0, t2) ∧ tF t2 F P))) := by
  have hc := h.2.1
  obtain ⟨wy, wn⟩ := Teller_takeWord_ok (N := N) hR (hc.lt (by omega) hE) hc h3 v
  by_cases hw : so = 1 ∧ w = v
  · obtain ⟨so2, pl2, w2, nu2, nx2, hc2⟩ := hc.next (by omega) (by omega)
    obtain ⟨m1, m2, m3⟩ := Mo_told_ok (N := N) hN h h2 v lo hi hlo hhi (fun _ => hc2)
    obtain ⟨t1, e1, q1⟩ := wy hw
    obtain ⟨ny, nn⟩ := Teller_takeNumber_ok (N := N) hR (hc2.lt (by omega) hE) hc2 q1.1 lo hi hlo hhi
    by_cases hnum : so2 = 2 ∧ lo ≤ nu2 ∧ nu2 ≤ hi
    · obtain ⟨t2, e2, q2, q2v⟩ := ny hnum
      obtain ⟨z, ez, zg⟩ := m1 hw hnum
      exact Or.inl ⟨t1, t2, nu2, z, hnum.2.1, hnum.2.2, e1, e2, ⟨q2.1, q2.2.1.trans q1.2.1, q2.2.2.trans q1.2.2⟩, q2v, ez, zg⟩
    · obtain ⟨t2, e2, q2⟩ := nn hnum
      obtain ⟨r, z, ez, zk, zF⟩ := m2 hw hnum
      exact Or.inr ⟨r, z, _, _, zfl_pos (by split <;> decide), zfl_le (by split <;> decide), ez, zk, zF, Or.inr ⟨t1, t2, e1, e2, q2⟩⟩
  · obtain ⟨t1, e1, q1⟩ := wn hw
    obtain ⟨r, z, ez, zk, zF⟩ := Mo_told_n (N := N) hN h h2 v (nI lo) (nI hi) hw
    exact Or.inr ⟨r, z, _, _, zfl_pos (by decide), zfl_le (by decide), ez, zk, zF, Or.inl ⟨t1, e1, q1⟩⟩
/-- a new name, on both sides -/
theorem new_two {N : Nat} (hN : 1600 ≤ N) {T : Nat → Nat} {n m j pl0 nu0 nx0 c n1 bb : Nat} {w0 : Int64} {M t sR : zSt} {f : Nat → Int64} (hM : moC M T n j 1 pl0 w0 nu0 nx0) (h2 : zI M 2 = 0) (hR : rdR sR T n m) (hE : m = 205 ∨ rdE T n m) (hj : j + 1 < 205) (h3 : zI t 3 = nI (j + 1)) (hc1 : c ≤ n1) (hn1 : n1 < 100) (hb : bb + c < 48) (hf : ∀ i, i < c → zB M 10 (bb + i) = f i) :
    (∃ t1 w y, ¬ isKw w ∧ ¬ inN f c w ∧ Teller_takeNewName N t n1 f sR (nI c) = some (1, t1) ∧ tG t t1 (j + 1) ∧ zL t1 5 = w ∧ Mo_newName N M (nI bb) (nI c) = some y ∧ mN M y T n (j + 2) (bb + c) w) ∨
    (∃ t1 y F P, 0 < F ∧ F ≤ 5 ∧ Teller_takeNewName N t n1 f sR (nI c) = some (0, t1) ∧ tF t1 F P ∧ Mo_newName N M (nI bb) (nI c) = some y ∧ mK M y ∧ mF y F P) := by
  obtain ⟨so, pl, w, nu, nx, hc⟩ := hM.2.1.next (by decide) (by decide)
  obtain ⟨ty, tn⟩ := Teller_takeNewName_ok (N := N) hN (f := f) (c := c) (n1 := n1) hR (hc.lt (by omega) hE) hc h3 hc1 hn1
  obtain ⟨my, mn⟩ := Mo_newName_ok (N := N) hN (b := bb) (c := c) hM h2 (by decide) (by decide) hc hb
  have hin : inN (fun i => zB M 10 (bb + i)) c w ↔ inN f c w := inN_congr hf
  by_cases hok : so = 1 ∧ ¬ isKw w ∧ ¬ inN f c w
  · obtain ⟨t2, e2, g1, g2⟩ := ty hok
    obtain ⟨y, ey, y1⟩ := my ⟨hok.1, hok.2.1, fun q => hok.2.2 (hin.mp q)⟩
    exact Or.inl ⟨t2, w, y, hok.2.1, hok.2.2, e2, g1, g2, ey, y1⟩
  · obtain ⟨t2, e2, g1⟩ := tn hok
    obtain ⟨y, ey, y1, y2⟩ := mn (fun q => hok ⟨q.1, q.2.1, fun r => q.2.2 (hin.mpr r)⟩)
    exact Or.inr ⟨t2, y, _, _, zfl_pos (by split <;> decide), zfl_le (by split <;> decide), e2, g1, ey, y1, y2⟩
theorem Valley_addEar_eq {N e : Nat} {V : zSt} {w : Int64} {p : Int32} (h : zI V 12 = nI e) (he : e < 4) : Valley_addEar N V w p = some (zpI (zsA (zsB V 13 (vp_updL (zB V 13) e w)) 14 (upd (zA V 14) e p)) 12 (nI (e + 1))) := by
  unfold Valley_addEar Valley_addEar_b0
  rw [h, zck_in (vp_in_nI he (by decide)), zck_in (vp_in_nI he (by decide)), nI_clamp (by omega), nI_1]
/-- the reference behind a fault -/
theorem Mo_ear_F {N e F P : Nat} {M y z3 : zSt} {r : Int32} (ey : Mo_newName N M 32 (zI M 26) = some y) (y26 : zI y 26 = nI e) (he : e < 4) (p0 : 0 < F) (p5 : F ≤ 5) (hL : mL M z3) (hF : mF z3 F P) (et : Mo_told N (zmg [14] y M) 24948 0 99 = some (r, z3)) :
    ∃ z1, Mo_readEar N M = some z1 ∧ mL M (zmg [11, 12, 13, 15] z1 M) ∧ mF (zmg [11, 12, 13, 15] z1 M) F P := by
  unfold Mo_readEar Mo_readEar_b0
  rw [ey]
  simp only [zbs]
  rw [et]
  simp only [zbs]
  rw [y26, zck_in (vp_in_nI he (by decide)), if_neg (hF.ne p0 p5).2]
  refine ⟨_, rfl, ⟨hL.1, hL.2.1, ?_⟩, hF⟩
  rw [zA_mg, if_neg (by decide), zA_sA, if_neg (by decide), zA_mg, if_neg (by decide)]
  exact hL.2.2
/-- what the reference has behind a good ear -/
def EG (M ZZ : zSt) (T : Nat → Nat) (n j e p : Nat) (w : Int64) : Prop := zI ZZ 2 = 0 ∧ (∃ so pl w nu nx, moC ZZ T n j so pl w nu nx) ∧ (∀ i, 9 ≤ i → zI ZZ i = if i = 26 then nI (e + 1) else zI M i) ∧ zI ZZ 1 = zI M 1 ∧ (∀ i, zA ZZ i = if i = 14 then upd (zA M 14) e (nI p) else zA M i) ∧ ∀ l, zB ZZ 10 l = if l = 32 + e then w else zB M 10 l
theorem Mo_ear_G {N n j e p : Nat} {T : Nat → Nat} {w : Int64} {M y z3 : zSt} (ey : Mo_newName N M 32 (zI M 26) = some y) (l5 : zI M 26 = nI e) (he : e < 4) (hy : mN M y T n (j + 2) (32 + e) w) (et : Mo_told N (zmg [14] y M) 24948 0 99 = some (nI p, z3)) (hz : mG (zmg [14] y M) z3 T n (j + 4)) :
    ∃ z1, Mo_readEar N M = some z1 ∧ EG M (zmg [11, 12, 13, 15] z1 M) T n (j + 4) e p w := by
  obtain ⟨y1, y2, y3, y4, y5, y6⟩ := hy
  obtain ⟨⟨k1, k2, k3⟩, g2, so, pl, w', nu, nx, gc⟩ := hz
  have y26 : zI y 26 = nI e := by rw [y1 26 (by decide) (by decide) (by decide) (by decide) (by decide) (by decide)]; exact l5
  have z26 : zI z3 26 = nI e := by rw [k1 26 (by decide) (by decide) (by decide) (by decide) (by decide) (by decide)]; exact y26
  have zAM : zA z3 = zA M := by rw [k2]; exact zmg_A y2
  unfold Mo_readEar Mo_readEar_b0
  rw [ey]
  simp only [zbs]
  rw [et]
  simp only [zbs]
  rw [y26, zck_in (vp_in_nI he (by decide)), if_pos g2, nI_clamp (by omega), z26, nI_1]
  refine ⟨_, rfl, ?_, ?_, ?_, ?_, ?_, ?_⟩
  · rw [zI_mg, zI_pI, if_neg (by decide)]
    exact g2
  · refine ⟨so, pl, w', nu, nx, gc.of (fun i hi => ?_) rfl ?_⟩
    · rw [zI_mg, zI_pI, if_neg (by omega)]
      rfl
    · rw [zA_mg, if_neg (by decide), zA_pI, zA_sA, if_neg (by decide), zA_mg, if_neg (by decide)]
  · intro i hi
    rw [zI_mg, zI_pI]
    by_cases q : i = 26
    · rw [if_pos q, if_pos q]
    · rw [if_neg q, if_neg q]
      show zI z3 i = _
      rw [k1 i (by omega) (by omega) (by omega) (by omega) (by omega) (by omega)]
      exact y1 i (by omega) (by omega) (by omega) (by omega) (by omega) (by omega)
  · rw [zI_mg, zI_pI, if_neg (by decide)]
    show zI z3 1 = _
    rw [k1 1 (by decide) (by decide) (by decide) (by decide) (by decide) (by decide)]
    exact y1 1 (by decide) (by decide) (by decide) (by decide) (by decide) (by decide)
  · intro i
    rw [zA_mg]
    by_cases q : i = 14
    · rw [if_pos q, q, if_neg (by decide), zA_pI, zA_sA, if_pos rfl]
    · rw [if_neg q]
      by_cases q2 : [11, 12, 13, 15].contains i = true
      · rw [if_pos q2]
      · rw [if_neg q2, zA_pI, zA_sA, if_neg q, zA_mg]
        by_cases q3 : [10, 14].contains i = true
        · rw [if_pos q3, zmg_A y2]
        · rw [if_neg q3, zAM]
  · intro l
    rw [zB_mg, if_neg (by decide), zB_pI, zB_sA, zB_mg, if_pos (by decide), zB_mg, if_neg (by decide)]
    exact y4 l
theorem LR_ear {M z V : zSt} {h b k e d p : Nat} {w : Int64} (hLR : LR M V h b k e d) (he : e < 4) (hp : p ≤ 99) (hw : ¬ inN (zB V 13) e w)
    (hI : ∀ i, 9 ≤ i → zI z i = if i = 26 then nI (e + 1) else zI M i) (hA : ∀ i, zA z i = if i = 14 then upd (zA M 14) e (nI p) else zA M i) (hB : ∀ l, zB z 10 l = if l = 32 + e then w else zB M 10 l) :
    LR z (zpI (zsA (zsB V 13 (vp_updL (zB V 13) e w)) 14 (upd (zA V 14) e (nI p))) 12 (nI (e + 1))) h b k (e + 1) d := by
  obtain ⟨⟨l1, l2, l3, l4, l5, l6⟩, ⟨v1, v2, v3, v4, v5⟩, ⟨b1, b2, b3, b4, b5, b6⟩, ⟨n1, n2⟩, ⟨n3, n4⟩, ⟨n5, n6⟩, ⟨m1, m2, m3⟩⟩ := hLR
  have hV13 : ∀ l, zB (zpI (zsA (zsB V 13 (vp_updL (zB V 13) e w)) 14 (upd (zA V 14) e (nI p))) 12 (nI (e + 1))) 13 l = if l = e then w else zB V 13 l := fun l => by
    rw [zB_pI, zB_sA, zB_sB, if_pos rfl]; rfl
  have hV14 : ∀ l, zA (zpI (zsA (zsB V 13 (vp_updL (zB V 13) e w)) 14 (upd (zA V 14) e (nI p))) 12 (nI (e + 1))) 14 l = if l = e then nI p else zA V 14 l := fun l => by
    rw [zA_pI, zA_sA, if_pos rfl]; rfl
  refine ⟨⟨by rw [hI _ (by decide)]; exact l1, by rw [hI _ (by decide)]; exact l2, by rw [hI _ (by decide)]; exact l3, by rw [hI _ (by decide)]; exact l4, by rw [hI _ (by decide), if_pos rfl], by rw [hI _ (by decide)]; exact l6⟩, ⟨v1, v2, v3, rfl, v5⟩, ⟨b1, b2, b3, b4, by omega, b6⟩, ⟨fun i hi => ?_, n2⟩, ⟨fun i hi => ?_, n4⟩, ⟨fun i hi => ?_, fun i l hi hl hh => ?_⟩, ⟨m1, m2, ?_⟩⟩
  · rw [hB i, if_neg (by omega)]; exact n1 i hi
  · obtain ⟨x1, x2, x3, x4, x5⟩ := n3 i hi
    exact ⟨by rw [hB (16 + i), if_neg (by omega)]; exact x1, by rw [hA 11, if_neg (by decide)]; exact x2, by rw [hA 12, if_neg (by decide)]; exact x3, by rw [hA 13, if_neg (by decide)]; exact x4, by rw [hA 15, if_neg (by decide)]; exact x5⟩
  · by_cases q : i = e
    · refine ⟨by rw [hB (32 + i), hV13 i, if_pos (by omega), if_pos q], ?_⟩
      rw [hA 14, if_pos rfl, hV14 i, if_pos q]
      unfold upd
      rw [if_pos q]
    · refine ⟨by rw [hB (32 + i), hV13 i, if_neg (by omega), if_neg q]; exact (n5 i (by omega)).1, ?_⟩
      rw [hA 14, if_pos rfl, hV14 i, if_neg q]
      unfold upd
      rw [if_neg q]
      exact (n5 i (by omega)).2
  · rw [hV13 i, hV13 l] at hh
    by_cases ei : i = e
    · by_cases el : l = e
      · omega
      · rw [if_pos ei, if_neg el] at hh
        exact absurd ⟨l, by omega, hh.symm⟩ hw
    · by_cases el : l = e
      · rw [if_neg ei, if_pos el] at hh
        exact absurd ⟨i, by omega, hh⟩ hw
      · rw [if_neg ei, if_neg el] at hh
        exact n6 i l (by omega) (by omega) hh
  · have e1 := nI_toInt (n := e + 1) (by omega)
    have e2 := nI_toInt (n := p) (by omega)
    exact IS.pI 12 _ (IS.sA 14 _ (IS.sB 13 _ m3) (show ∀ i, (0 : Int) ≤ (upd (zA V 14) e (nI p) i).toInt ∧ (upd (zA V 14) e (nI p) i).toInt ≤ 99 from rgu (fun i => m3.2 14 i) ⟨by omega, by omega⟩)) (show (0 : Int) ≤ (nI (e + 1)).toInt ∧ (nI (e + 1)).toInt ≤ 4 by omega)
theorem ear_line {N : Nat} (hN : 1600 ≤ N) {T : Nat → Nat} {n m j pl0 nu0 nx0 h b k e d : Nat} {w0 : Int64} {M V sT sR : zSt} (hLR : LR M V h b k e d) (he : e < 4) (hM : moC M T n j 1 pl0 w0 nu0 nx0) (h2 : zI M 2 = 0) (hR : rdR sR T n m) (hE : m = 205 ∨ rdE T n m) (hT3 : zI sT 3 = nI (j + 1)) (hj : j + 5 ≤ 205) :
    ∃ c z1 z, Teller_tellEar N sT V sR = some c ∧ Mo_readEar N M = some z1 ∧ Mo_readLine_b132 N (zmg [11, 12, 13, 15] z1 M) = some z ∧ LO T n (j + 5) M (fun z v => LR z v h b k (e + 1) d ∧ KP [1, 2, 4, 5, 6, 7, 10] V v) sT c z := by
  have hLR0 := hLR
  obtain ⟨⟨l1, l2, l3, l4, l5, l6⟩, ⟨v1, v2, v3, v4, v5⟩, _, _, _, ⟨n5, n6⟩, ⟨_, _, m3⟩⟩ := hLR
  have hrun : Teller_tellEar N sT V sR = (Teller_takeNewName N sT 4 (zB V 13) sR (nI e)).bind (fun z2 => if z2.1 = 0 then (some (0, z2.2, V)) else ((Teller_takeWord N z2.2 sR 24948).bind (fun z5 => if z5.1 = 0 then (some (0, z5.2, V)) else ((Teller_takeNumber N z5.2 sR 0 99).bind (fun z8 => if z8.1 = 0 then (some (0, z8.2, V)) else ((Teller_take N z8.2 sR 4).bind (fun z11 => if z11.1 = 0 then (some (0, z11.2, V)) else ((Valley_addEar N V (zL z2.2 5) (Int64.toInt32 (zL z8.2 5))).bind (fun z14 => some (1, z11.2, z14)))))))))) := by
    unfold Teller_tellEar Teller_tellEar_b0
    rw [v4, if_pos ((zltL (k := 4) (by omega) (by decide)).mpr he)]
  rw [hrun]
  rcases new_two hN (bb := 32) (n1 := 4) hM h2 hR hE (by omega) hT3 (show e ≤ 4 by omega) (by decide) (by omega) (fun i hi => (n5 i hi).1) with ⟨t1, w, y, hkw, hin, e1, g1, g2, ey, hy⟩ | ⟨t1, y, F, P, p0, p5, e1, g1, ey, y1, y2⟩
  · have ey : Mo_newName N M 32 (zI M 26) = some y := by rw [l5]; exact ey
    have y26 : zI y 26 = nI e := by rw [hy.1 26 (by decide) (by decide) (by decide) (by decide) (by decide) (by decide)]; exact l5
    obtain ⟨so2, pl2, w2, nu2, nx2, y6⟩ := hy.2.2.2.2.2
    have ym : moC (zmg [14] y M) T n (j + 2) so2 pl2 w2 nu2 nx2 := y6.mg hy.2.1
    have yL : mL M (zmg [14] y M) := ⟨fun i hi => hy.1 i (by omega) (by omega) (by omega) (by omega) (by omega) (by omega), hy.1 1 (by decide) (by decide) (by decide) (by decide) (by decide) (by decide), by rw [zmg_A hy.2.1]⟩
    rw [e1]
    simp only [zbs]
    rw [if_neg (by decide)]
    rcases told_two hN ym hy.2.2.2.2.1 hR hE (by omega) g1.1 24948 0 99 (by decide) (by decide) with ⟨t2, t3, p, z3, p1, p2, e2, e3, g3, g3v, ez, zg⟩ | ⟨r, z3, F, P, p0, p5, ez, zk, zF, hc⟩
    · have e3 : Teller_takeNumber N t2 sR 0 99 = some (1, t3) := e3
      rw [e2]
      simp only [zbs]
      rw [if_neg (by decide), e3]
      simp only [zbs]
      rw [if_neg (by decide)]
      obtain ⟨z1, ez1, q2, ⟨so4, pl4, w4, nu4, nx4, qc⟩, qI, q1, qA, qB⟩ := Mo_ear_G ey l5 he hy ez zg
      have ZL : mL M (zmg [11, 12, 13, 15] z1 M) := ⟨fun i hi => by rw [qI i (by omega), if_neg (by omega)], q1, by rw [qA 0, if_neg (by decide)]⟩
      rcases close_ok (N := N) hN qc q2 hR hE (by omega) g3.1 with ⟨_, t4, z, e4, ez4, g4, zz⟩ | ⟨t4, z, F, P, e4, ez4, p0, p5, g4, zk, zF⟩
      · rw [e4]
        simp only [zbs]
        rw [if_neg (by decide), g2, g3v, lN_i, Valley_addEar_eq v4 he]
        simp only [zbs]
        refine ⟨_, z1, z, rfl, ez1, ez4, ZL.trans zz.1.mL, Or.inr ⟨rfl, g4.1, g4.2.1.trans (g3.2.1.trans g1.2.1), g4.2.2.trans (g3.2.2.trans g1.2.2), zz.2.1, zz.2.2, ?_, ⟨fun _ => rfl, fun _ => rfl, fun q => absurd q (by decide), fun _ => rfl, fun _ => rfl, fun _ => rfl, fun _ => rfl, fun q => absurd q (by decide)⟩⟩⟩
        refine LR_ear hLR0 he p2 hin (fun i hi => ?_) (fun i => ?_) (fun l => ?_)
        · rw [zz.1.1 i (by omega) (by omega) (by omega) (by omega) (by omega) (by omega)]; exact qI i hi
        · rw [zz.1.2.1]; exact qA i
        · rw [zz.1.2.2]; exact qB l
      · rw [e4]
        simp only [zbs]
        rw [if_pos trivial]
        exact ⟨_, z1, z, rfl, ez1, ez4, ZL.trans zk.mL, Or.inl ⟨rfl, m3, F, P, p0, p5, g4, zF⟩⟩
    · obtain ⟨z1, ez1, a1, a2⟩ := Mo_ear_F ey y26 he p0 p5 (yL.trans zk.mL) zF ez
      rcases hc with ⟨t2, e2, g3⟩ | ⟨t2, t3, e2, e3, g3⟩
      · rw [e2]
        simp only [zbs]
        rw [if_pos trivial]
        exact ⟨_, z1, _, rfl, ez1, Mo_lineEnd_F a2 p0 p5, a1, Or.inl ⟨rfl, m3, F, P, p0, p5, g3, a2⟩⟩
      · have e3 : Teller_takeNumber N t2 sR 0 99 = some (0, t3) := e3
        rw [e2]
        simp only [zbs]
        rw [if_neg (by decide), e3]
        simp only [zbs]
        rw [if_pos trivial]
        exact ⟨_, z1, _, rfl, ez1, Mo_lineEnd_F a2 p0 p5, a1, Or.inl ⟨rfl, m3, F, P, p0, p5, g3, a2⟩⟩
  · have ey : Mo_newName N M 32 (zI M 26) = some y := by rw [l5]; exact ey
    have y26 : zI y 26 = nI e := by rw [y1.1 26 (by decide) (by decide) (by decide) (by decide) (by decide) (by decide)]; exact l5
    have yF : mF (zmg [14] y M) F P := y2
    obtain ⟨z1, ez1, a1, a2⟩ := Mo_ear_F ey y26 he p0 p5 y1.mg.mL yF (Mo_told_F (yF.ne p0 p5).1)
    rw [e1]
    simp only [zbs]
    rw [if_pos trivial]
    exact ⟨_, z1, _, rfl, ez1, Mo_lineEnd_F a2 p0 p5, a1, Or.inl ⟨rfl, m3, F, P, p0, p5, g1, a2⟩⟩
