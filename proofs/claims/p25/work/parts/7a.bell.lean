/-! bells: the part that beasts and strangers share -/
theorem nc4 {i : Nat} (h : ¬ (i = 11 ∨ i = 12 ∨ i = 13 ∨ i = 15)) : ¬ ([11, 12, 13, 15].contains i = true) := by
  intro q
  simp at q
  omega
theorem Mo_readBell_run {N b : Nat} {s z3 z6 : zSt} {herd r1 r2 : Int32} (hb : zI s 23 = nI b) (hb11 : b < 11)
    (e1 : Mo_told N (zsA (zsA s 13 (upd (zA s 13) b herd)) 15 (upd (zA s 15) b 0)) 1650814060 0 11 = some (r1, z3)) (h3b : zI z3 23 = nI b)
    (e2 : Mo_told N (zsA (zmg [11, 12, 13, 15] z3 (zsA (zsA s 13 (upd (zA s 13) b herd)) 15 (upd (zA s 15) b 0))) 11 (upd (zA s 11) b r1)) 1819243876 1 99 = some (r2, z6)) :
    ∃ X, Mo_readBell N s herd = some (if zI z6 2 = 0 then zpI X 23 (zI z6 23 + 1) else X) ∧ zI X = zI z6 ∧ zL X = zL z6 ∧ zA X 0 = zA z6 0 ∧ (∀ i, ¬ (i = 11 ∨ i = 12 ∨ i = 13 ∨ i = 15) → zA X i = zA z6 i) ∧ zA X 11 = upd (zA s 11) b r1 ∧ zA X 12 = upd (zA s 12) b r2 ∧ zA X 13 = upd (zA s 13) b herd ∧ zA X 15 = upd (zA s 15) b 0 ∧ (∀ i, ¬ (i = 11 ∨ i = 12 ∨ i = 13 ∨ i = 15) → zB X i = zB z6 i) := by
  refine ⟨zsA (zmg [11, 12, 13, 15] z6 (zsA (zmg [11, 12, 13, 15] z3 (zsA (zsA s 13 (upd (zA s 13) b herd)) 15 (upd (zA s 15) b 0))) 11 (upd (zA s 11) b r1))) 12 (upd (zA s 12) b r2), ?_, rfl, rfl, ?_, ?_, ?_, ?_, ?_, ?_, ?_⟩
  · unfold Mo_readBell Mo_readBell_b0
    rw [hb, zck_in (vp_in_nI hb11 (by decide)), zck_in (vp_in_nI hb11 (by decide)), nI_clamp (by omega), e1]
    simp only [zbs]
    rw [zck_in (vp_in_nI hb11 (by decide)), e2]
    simp only [zbs]
    rw [h3b, zck_in (vp_in_nI hb11 (by decide)), nI_clamp (by omega)]
    split <;> rfl
  · rw [zA_sA, if_neg (by decide), zA_mg, if_neg (by decide)]
  · intro i hi
    rw [zA_sA, if_neg (by omega), zA_mg, if_neg (nc4 hi)]
  · rw [zA_sA, if_neg (by decide), zA_mg, if_pos (by decide), zA_sA, if_pos rfl]
  · rw [zA_sA, if_pos rfl]
  · rw [zA_sA, if_neg (by decide), zA_mg, if_pos (by decide), zA_sA, if_neg (by decide), zA_mg, if_pos (by decide), zA_sA, if_neg (by decide), zA_sA, if_pos rfl]
  · rw [zA_sA, if_neg (by decide), zA_mg, if_pos (by decide), zA_sA, if_neg (by decide), zA_mg, if_pos (by decide), zA_sA, if_pos rfl]
  · intro i hi
    rw [zB_sA, zB_mg, if_neg (nc4 hi)]
/-- the reference behind a good bell -/
def BG (s Z : zSt) (T : Nat → Nat) (n j b p q : Nat) (herd : Int32) : Prop := zI Z 2 = 0 ∧ (∃ so pl w nu nx, moC Z T n j so pl w nu nx) ∧ (∀ i, 9 ≤ i → zI Z i = if i = 23 then nI (b + 1) else zI s i) ∧ zI Z 1 = zI s 1 ∧
  ((∀ i, ¬ (i = 11 ∨ i = 12 ∨ i = 13 ∨ i = 15) → zA Z i = zA s i) ∧ zA Z 11 = upd (zA s 11) b (nI p) ∧ zA Z 12 = upd (zA s 12) b (nI q) ∧ zA Z 13 = upd (zA s 13) b herd ∧ zA Z 15 = upd (zA s 15) b 0) ∧ zB Z 10 = zB s 10
/-- a bell, with a fault already -/
theorem Mo_readBell_FF {N b F P : Nat} {s : zSt} {herd : Int32} (hb : zI s 23 = nI b) (hb11 : b < 11) (p0 : 0 < F) (p5 : F ≤ 5) (hF : mF s F P) : ∃ Z, Mo_readBell N s herd = some Z ∧ zI Z = zI s ∧ zA Z 0 = zA s 0 := by
  have e1 : Mo_told N (zsA (zsA s 13 (upd (zA s 13) b herd)) 15 (upd (zA s 15) b 0)) 1650814060 0 11 = some (0, zsA (zsA s 13 (upd (zA s 13) b herd)) 15 (upd (zA s 15) b 0)) := Mo_told_F (hF.ne p0 p5).1
  have e2 : Mo_told N (zsA (zmg [11, 12, 13, 15] (zsA (zsA s 13 (upd (zA s 13) b herd)) 15 (upd (zA s 15) b 0)) (zsA (zsA s 13 (upd (zA s 13) b herd)) 15 (upd (zA s 15) b 0))) 11 (upd (zA s 11) b 0)) 1819243876 1 99 = some (0, _) := Mo_told_F (hF.ne p0 p5).1
  obtain ⟨X, r, xI, xL, x0, _⟩ := Mo_readBell_run hb hb11 e1 hb e2
  rw [if_neg (by exact (hF.ne p0 p5).2)] at r
  refine ⟨X, r, xI, ?_⟩
  rw [x0, zA_sA, if_neg (by decide), zA_mg, if_neg (by decide), zA_sA, if_neg (by decide), zA_sA, if_neg (by decide)]
/-- a bell on both sides, up to the line's end -/
theorem bell_two {N : Nat} (hN : 1600 ≤ N) {T : Nat → Nat} {n m j so pl nu nx b : Nat} {w nm : Int64} {s t V sR : zSt} {herd : Int32} (h : moC s T n j so pl w nu nx) (h2 : zI s 2 = 0) (hb : zI s 23 = nI b) (hb11 : b < 11) (hR : rdR sR T n m) (hE : m = 205 ∨ rdE T n m) (hj : j + 5 ≤ 205) (h3 : zI t 3 = nI j) :
    (∃ t4 p q Z, p ≤ 11 ∧ 1 ≤ q ∧ q ≤ 99 ∧ Teller_tellBell N t V sR nm herd = (Teller_take N t4 sR 4).bind (fun z13 => if z13.1 = 0 then (some (0, z13.2, V)) else ((Valley_addBell N V nm herd (nI p) (nI q)).bind (fun z16 => some (1, z13.2, z16)))) ∧ tG t t4 (j + 3) ∧ Mo_readBell N s herd = some Z ∧ BG s Z T n (j + 4) b p q herd) ∨
    (∃ t1 Z F P, 0 < F ∧ F ≤ 5 ∧ Teller_tellBell N t V sR nm herd = some (0, t1, V) ∧ tF t1 F P ∧ Mo_readBell N s herd = some Z ∧ mL s Z ∧ mF Z F P) := by
  have hS1 : moC (zsA (zsA s 13 (upd (zA s 13) b herd)) 15 (upd (zA s 15) b 0)) T n j so pl w nu nx := h.of (fun _ _ => rfl) rfl (by rw [zA_sA, if_neg (by decide), zA_sA, if_neg (by decide)])
  have hS1A : ∀ i, ¬ (i = 11 ∨ i = 12 ∨ i = 13 ∨ i = 15) → zA (zsA (zsA s 13 (upd (zA s 13) b herd)) 15 (upd (zA s 15) b 0)) i = zA s i := fun i hi => by rw [zA_sA, if_neg (by omega), zA_sA, if_neg (by omega)]
  have run : ∀ t1 t2 p, Teller_takeWord N t sR 1650814060 = some (1, t1) → Teller_takeNumber N t1 sR (nI 0) (nI 11) = some (1, t2) → zL t2 5 = lN p → Teller_tellBell N t V sR nm herd = (Teller_takeWord N t2 sR 1819243876).bind (fun z7 => if z7.1 = 0 then (some (0, z7.2, V)) else ((Teller_takeNumber N z7.2 sR 1 99).bind (fun z10 => if z10.1 = 0 then (some (0, z10.2, V)) else ((Teller_take N z10.2 sR 4).bind (fun z13 => if z13.1 = 0 then (some (0, z13.2, V)) else ((Valley_addBell N V nm herd (nI p) (Int64.toInt32 (zL z10.2 5))).bind (fun z16 => some (1, z13.2, z16)))))))) := by
    intro t1 t2 p e1 e2 e3
    have e2 : Teller_takeNumber N t1 sR 0 11 = some (1, t2) := e2
    unfold Teller_tellBell Teller_tellBell_b0
    rw [e1]
    simp only [zbs]
    rw [if_neg (by decide), e2]
    simp only [zbs]
    rw [if_neg (by decide), e3, lN_i]
  rcases told_two (N := N) hN hS1 h2 hR hE (by omega) h3 1650814060 0 11 (by decide) (by decide) with ⟨t1, t2, p, z3, _, p2, e1, e2, g2, g2v, ez, zg⟩ | ⟨r1, z3, F, P, p0, p5, ez, zk, zF, hc⟩
  · have hr := run t1 t2 p e1 e2 g2v
    obtain ⟨⟨k1, k2, k3⟩, k4, so2, pl2, w2, nu2, nx2, kc⟩ := zg
    have h3b : zI z3 23 = nI b := by rw [k1 23 (by decide) (by decide) (by decide) (by decide) (by decide) (by decide)]; exact hb
    have hS2 : moC (zsA (zmg [11, 12, 13, 15] z3 (zsA (zsA s 13 (upd (zA s 13) b herd)) 15 (upd (zA s 15) b 0))) 11 (upd (zA s 11) b (nI p))) T n (j + 2) so2 pl2 w2 nu2 nx2 := kc.of (fun _ _ => rfl) rfl (by rw [zA_sA, if_neg (by decide), zA_mg, if_neg (by decide)])
    have hS2A : ∀ i, ¬ (i = 11 ∨ i = 12 ∨ i = 13 ∨ i = 15) → zA (zsA (zmg [11, 12, 13, 15] z3 (zsA (zsA s 13 (upd (zA s 13) b herd)) 15 (upd (zA s 15) b 0))) 11 (upd (zA s 11) b (nI p))) i = zA s i := fun i hi => by
      rw [zA_sA, if_neg (by omega), zmg_A k2]; exact hS1A i hi
    rcases told_two (N := N) hN hS2 k4 hR hE (by omega) g2.1 1819243876 1 99 (by decide) (by decide) with ⟨t3, t4, q, z6, q1, q2, e3, e4, g4, g4v, ez6, zg6⟩ | ⟨r2, z6, F, P, p0, p5, ez6, zk6, zF6, hc⟩
    · obtain ⟨⟨u1, u2, u3⟩, u4, so4, pl4, w4, nu4, nx4, uc⟩ := zg6
      obtain ⟨X, r, xI, xL, x0, xA, x11, x12, x13, x15, xB⟩ := Mo_readBell_run hb hb11 ez h3b ez6
      rw [if_pos u4] at r
      have e4 : Teller_takeNumber N t3 sR 1 99 = some (1, t4) := e4
      have z6b : zI z6 23 = nI b := by rw [u1 23 (by decide) (by decide) (by decide) (by decide) (by decide) (by decide)]; exact h3b
      refine Or.inl ⟨t4, p, q, _, p2, q1, q2, ?_, ⟨g4.1, g4.2.1.trans g2.2.1, g4.2.2.trans g2.2.2⟩, r, ?_, ⟨so4, pl4, w4, nu4, nx4, uc.of (fun i hi => ?_) ?_ ?_⟩, fun i hi => ?_, ?_, ⟨fun i hi => ?_, ?_, ?_, ?_, ?_⟩, ?_⟩
      · rw [hr, e3]
        simp only [zbs]
        rw [if_neg (by decide), e4]
        simp only [zbs]
        rw [if_neg (by decide), g4v, lN_i]
      · rw [zI_pI, if_neg (by decide), xI]; exact u4
      · rw [zI_pI, if_neg (by omega), xI]
      · rw [zL_pI, xL]
      · rw [zA_pI, x0]
      · rw [zI_pI]
        by_cases e : i = 23
        · rw [if_pos e, if_pos e, z6b, nI_1]
        · rw [if_neg e, if_neg e, xI, u1 i (by omega) (by omega) (by omega) (by omega) (by omega) (by omega)]
          show zI z3 i = _
          rw [k1 i (by omega) (by omega) (by omega) (by omega) (by omega) (by omega)]
          rfl
      · rw [zI_pI, if_neg (by decide), xI, u1 1 (by decide) (by decide) (by decide) (by decide) (by decide) (by decide)]
        show zI z3 1 = _
        rw [k1 1 (by decide) (by decide) (by decide) (by decide) (by decide) (by decide)]
        rfl
      · rw [zA_pI, xA i hi, u2]; exact hS2A i hi
      · rw [zA_pI]; exact x11
      · rw [zA_pI]; exact x12
      · rw [zA_pI]; exact x13
      · rw [zA_pI]; exact x15
      · rw [zB_pI, xB 10 (by decide), u3, zB_sA, zmg_B k3]
        rfl
    · obtain ⟨X, r, xI, xL, x0, xA, _⟩ := Mo_readBell_run hb hb11 ez h3b ez6
      rw [if_neg (zF6.ne p0 p5).2] at r
      have XL : mL s X := ⟨fun i hi => by rw [xI, zk6.mL.1 i hi]; exact k1 i (by omega) (by omega) (by omega) (by omega) (by omega) (by omega), by rw [xI, zk6.mL.2.1]; exact k1 1 (by decide) (by decide) (by decide) (by decide) (by decide) (by decide), by rw [x0, zk6.2.1]; exact hS2A 0 (by decide)⟩
      have XF : mF X F P := ⟨by rw [xI]; exact zF6.1, by rw [xI]; exact zF6.2⟩
      rcases hc with ⟨t3, e3, g3⟩ | ⟨t3, t4, e3, e4, g3⟩
      · refine Or.inr ⟨t3, X, F, P, p0, p5, ?_, g3, r, XL, XF⟩
        rw [hr, e3]
        simp only [zbs]
        rw [if_pos trivial]
      · have e4 : Teller_takeNumber N t3 sR 1 99 = some (0, t4) := e4
        refine Or.inr ⟨t4, X, F, P, p0, p5, ?_, g3, r, XL, XF⟩
        rw [hr, e3]
        simp only [zbs]
        rw [if_neg (by decide), e4]
        simp only [zbs]
        rw [if_pos trivial]
  · have h3b : zI z3 23 = nI b := by rw [zk.1 23 (by decide) (by decide) (by decide) (by decide) (by decide) (by decide)]; exact hb
    have e2 : Mo_told N (zsA (zmg [11, 12, 13, 15] z3 (zsA (zsA s 13 (upd (zA s 13) b herd)) 15 (upd (zA s 15) b 0))) 11 (upd (zA s 11) b r1)) 1819243876 1 99 = some (0, _) := Mo_told_F (zF.ne p0 p5).1
    obtain ⟨X, r, xI, xL, x0, xA, _⟩ := Mo_readBell_run hb hb11 ez h3b e2
    rw [if_neg (by exact (zF.ne p0 p5).2)] at r
    have XL : mL s X := ⟨fun i hi => by rw [xI]; exact zk.mL.1 i hi, by rw [xI]; exact zk.mL.2.1, by rw [x0, zA_sA, if_neg (by decide), zmg_A zk.2.1]; exact hS1A 0 (by decide)⟩
    have XF : mF X F P := ⟨by rw [xI]; exact zF.1, by rw [xI]; exact zF.2⟩
    rcases hc with ⟨t1, e1, g3⟩ | ⟨t1, t2, e1, e2, g3⟩
    · refine Or.inr ⟨t1, X, F, P, p0, p5, ?_, g3, r, XL, XF⟩
      unfold Teller_tellBell Teller_tellBell_b0
      rw [e1]
      simp only [zbs]
      rw [if_pos trivial]
    · have e2 : Teller_takeNumber N t1 sR 0 11 = some (0, t2) := e2
      refine Or.inr ⟨t2, X, F, P, p0, p5, ?_, g3, r, XL, XF⟩
      unfold Teller_tellBell Teller_tellBell_b0
      rw [e1]
      simp only [zbs]
      rw [if_neg (by decide), e2]
      simp only [zbs]
      rw [if_pos trivial]
