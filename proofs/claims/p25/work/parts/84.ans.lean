/-! answers: bell, hear, chord -/
theorem xor12 (x : Int32) : (0 ≤ x ^^^ (12 : Int32)) ↔ 0 ≤ x.toInt := by
  have e0 : (0 : Int32).toInt = 0 := by decide
  have h : (x ^^^ (12 : Int32)).toBitVec.msb = x.toBitVec.msb := by
    rw [Int32.toBitVec_xor, BitVec.msb_xor, show (12 : Int32).toBitVec.msb = false by decide, Bool.xor_false]
  rw [BitVec.msb_eq_toInt, BitVec.msb_eq_toInt, Int32.toInt_toBitVec, Int32.toInt_toBitVec] at h
  have h := decide_eq_decide.mp h
  rw [Int32.le_iff_toInt_le]
  omega
theorem trx12 (a : Int32) : (0 ≤ a.toInt ∧ (a - a / (12 : Int32) * (12 : Int32)).toInt = a.toInt % 12) ∨ (a.toInt < 0 ∧ (a - a / (12 : Int32) * (12 : Int32)).toInt = -((-a.toInt) % 12)) := by
  have r := tr a
  obtain ⟨e, q⟩ := tdq12 a
  have e2 := tmulr (a / (12 : Int32)) (12 : Int32) 12 (by decide) (by omega) (by omega)
  have e3 := tsub a (a / (12 : Int32) * (12 : Int32)) (by omega) (by omega)
  omega
theorem floorMod_two {N : Nat} (x : Int32) : Math_floorMod N x 12 = Mo_modulo N x := by
  have e0 : (0 : Int32).toInt = 0 := by decide
  have e12 : (12 : Int32).toInt = 12 := by decide
  have a := trx12 x
  have b := trem12 x
  have c := tadd (x - x / (12 : Int32) * (12 : Int32)) 12 (by omega) (by omega)
  have d := trx12 (x - x / (12 : Int32) * (12 : Int32) + 12)
  unfold Math_floorMod Math_floorMod_b0 Mo_modulo Mo_modulo_b0
  rw [zcz_in (by decide)]
  by_cases q : 0 ≤ x ^^^ (12 : Int32)
  · rw [if_pos q]
    have q := (xor12 x).mp q
    congr 1
    apply Int32.toInt_inj.mp
    omega
  · rw [if_neg q]
    have q : ¬ 0 ≤ x.toInt := fun h => q ((xor12 x).mpr h)
    by_cases p : x - x / (12 : Int32) * (12 : Int32) = 0
    · rw [if_pos p]
      have p := teq p
      congr 1
      apply Int32.toInt_inj.mp
      omega
    · rw [if_neg p]
      have p := tneq p
      congr 1
      apply Int32.toInt_inj.mp
      omega
theorem modulo_ok {N : Nat} (x : Int32) : ∃ r, Mo_modulo N x = some r := ⟨_, rfl⟩
/-- the tone of a bell in the year, on both sides -/
theorem tone_two {N b i : Nat} {V E M : zSt} (hb : b ≤ 11) (hi : i < b) (h5 : zA M 16 i = zA V 5 i) (hn : NowR M E) : ∃ r, Earnest_toneOf N E V (nI i) = some r ∧ Mo_toneNow N M (nI i) = some r := by
  obtain ⟨⟨n0, n1, n2, n3, n4⟩, n5⟩ := hn
  have v : vp_in (nI i) 11 := vp_in_nI (by omega) (by decide)
  unfold Earnest_toneOf Earnest_toneOf_b0 Mo_toneNow Mo_toneNow_b0
  rw [zck_in v, zck_in v, zck_in v, zck_in v, nI_clamp (by omega), floorMod_two, h5, n5 i (by omega), n4]
  obtain ⟨r, er⟩ := modulo_ok (N := N) (zA V 5 i - zA E 5 i * zI E 4)
  rw [er]
  exact ⟨r, rfl, rfl⟩
/-- how loud a bell is, on both sides -/
theorem loud_two {N b e i a : Nat} {V M : zSt} {p w : Int32} (hb : b ≤ 11) (hi : i < b) (he : e ≤ 4) (ha : a < e) (hV : I_Valley V) (h6 : zA M 17 i = zA V 6 i) (h14 : zA M 19 a = zA V 14 a) (hp : (0 : Int) ≤ p.toInt ∧ p.toInt ≤ 99) (hw : (0 : Int) ≤ w.toInt ∧ w.toInt ≤ 20) : ∃ r, Valley_loudAt N V (nI i) (nI a) p w = some r ∧ Mo_loudAt N M (nI i) (nI a) p w = some r := by
  have v : vp_in (nI i) 11 := vp_in_nI (by omega) (by decide)
  have u : vp_in (nI a) 4 := vp_in_nI (by omega) (by decide)
  have e0 : (0 : Int32).toInt = 0 := by decide
  have g : (0 : Int) ≤ (zA V 14 a).toInt ∧ (zA V 14 a).toInt ≤ 99 := hV.2 14 a
  have l : (0 : Int) ≤ (zA V 6 i).toInt ∧ (zA V 6 i).toInt ≤ 99 := hV.2 6 i
  have s1 := tsub p (zA V 14 a) (by omega) (by omega)
  have s2 := tsub (zA V 14 a) p (by omega) (by omega)
  have t1 := tneg (p - zA V 14 a) (by omega) (by omega)
  have t2 := tneg (zA V 14 a - p) (by omega) (by omega)
  unfold Valley_loudAt Valley_loudAt_b0 Mo_loudAt Mo_loudAt_b0
  rw [zck_in u, zck_in u, zck_in v, nI_clamp (by omega), nI_clamp (by omega), h6, h14]
  -- the distance
  have far : ∃ d : Int32, (0 : Int) ≤ d.toInt ∧ d.toInt ≤ 99 ∧ Math_abs N (p - zA V 14 a) = some d ∧ (if 0 ≤ (zA V 14 a - p) then (Mo_loudAt_b29 N M w (zA V 6 i) (zA V 14 a - p)) else (Mo_loudAt_b29 N M w (zA V 6 i) (-(zA V 14 a - p)))) = Mo_loudAt_b29 N M w (zA V 6 i) d := by
    unfold Math_abs Math_abs_b0
    by_cases q : 0 ≤ p - zA V 14 a
    · have q' := tle q
      refine ⟨p - zA V 14 a, by omega, by omega, if_pos q, ?_⟩
      by_cases r : 0 ≤ zA V 14 a - p
      · have r' := tle r
        rw [if_pos r, show zA V 14 a - p = p - zA V 14 a from Int32.toInt_inj.mp (by omega)]
      · rw [if_neg r, show -(zA V 14 a - p) = p - zA V 14 a from Int32.toInt_inj.mp (by omega)]
    · have q' := tnle q
      refine ⟨-(p - zA V 14 a), by omega, by omega, if_neg q, ?_⟩
      by_cases r : 0 ≤ zA V 14 a - p
      · rw [if_pos r, show zA V 14 a - p = -(p - zA V 14 a) from Int32.toInt_inj.mp (by omega)]
      · have r' := tnle r
        rw [if_neg r, show -(zA V 14 a - p) = -(p - zA V 14 a) from Int32.toInt_inj.mp (by omega)]
  obtain ⟨d, d1, d2, ed, em⟩ := far
  rw [em, ed]
  simp only [zbs]
  rw [zck_in v]
  unfold Mo_loudAt_b29 Math_max Math_max_b0
  have x1 := tsub (zA V 6 i) d (by omega) (by omega)
  have x2 := tsub (zA V 6 i - d) w (by omega) (by omega)
  by_cases q : 0 < zA V 6 i - d - w
  · have q' := tlt q
    rw [if_pos q, if_pos (show (0 : Int32) ≤ zA V 6 i - d - w from Int32.le_iff_toInt_le.mpr (by omega))]
    exact ⟨_, rfl, rfl⟩
  · have q' := tnlt q
    rw [if_neg q]
    by_cases r : 0 ≤ zA V 6 i - d - w
    · have r' := tle r
      rw [if_pos r, show zA V 6 i - d - w = 0 from Int32.toInt_inj.mp (by omega)]
      exact ⟨_, rfl, rfl⟩
    · rw [if_neg r]
      exact ⟨_, rfl, rfl⟩
theorem bell_ans {N : Nat} {s0 V E M : zSt} {v1 v2 : Int32} (hN : 50000000 ≤ N) (hE : I_Earnest E) (hL : LandR M V) (hn : NowR M E) : ∃ z y, CH_bell N s0 V E v1 v2 = some z ∧ Mo_bell N M v1 v2 = some y ∧ z = y := by
  have hn0 := hn
  obtain ⟨⟨n0, n1, n2, n3, n4⟩, n5⟩ := hn
  unfold CH_bell CH_bell_b0 Mo_bell Mo_bell_b0
  rw [hasBell_two hL.bells]
  obtain ⟨h, b, k, e, ⟨_, l2, _⟩, _, ⟨_, b2, _⟩, r1, _⟩ := hL
  rcases bell01 (N := N) (v := v1) l2 b2 with q | ⟨q, i, hi, rfl⟩ <;> rw [q] <;> simp only [zbs]
  · exact ⟨_, _, rfl, rfl, rfl⟩
  rw [if_neg n10, if_neg n10]
  have v : vp_in (nI i) 11 := vp_in_nI (by omega) (by decide)
  obtain ⟨x5, x6, x7, _⟩ := r1 i hi
  rw [zck_in v, zck_in v, zck_in v, zck_in v, zck_in v, zck_in v, nI_clamp (by omega), x6, x7, n5 i (by omega), n0, n1]
  by_cases c0 : v2 = 0
  · rw [if_pos c0, if_pos c0]
    obtain ⟨r, er, em⟩ := tone_two (N := N) b2 hi x5 hn0
    rw [er, em]
    exact ⟨_, _, rfl, rfl, rfl⟩
  rw [if_neg c0, if_neg c0]
  by_cases c1 : v2 = 1
  · rw [if_pos c1]; exact ⟨_, _, rfl, rfl, rfl⟩
  rw [if_neg c1]
  by_cases c2 : v2 = 2
  · rw [if_pos c2]; exact ⟨_, _, rfl, rfl, rfl⟩
  rw [if_neg c2]
  by_cases c3 : v2 = 3
  · rw [if_pos c3]; exact ⟨_, _, rfl, rfl, rfl⟩
  rw [if_neg c3]
  by_cases c4 : v2 = 4
  · rw [if_pos c4]; exact ⟨_, _, rfl, rfl, rfl⟩
  rw [if_neg c4]
  by_cases c5 : v2 = 5
  · rw [if_pos c5]; exact ⟨_, _, rfl, rfl, rfl⟩
  rw [if_neg c5]
  exact ⟨_, _, rfl, rfl, rfl⟩
theorem bit_10 {x : Int32} : (¬ (x &&& 1) = 0) ↔ (x &&& 1) = 1 := by
  rcases bit01 x with q | q
  · rw [q]; decide
  · rw [q]; decide
/-- how loud a tone is at an ear in earnest, on both sides -/
theorem heard_loop {N b e a : Nat} {V E M : zSt} {t : Int32} (hb : b ≤ 11) (he : e ≤ 4) (ha : a < e) (hV : I_Valley V) (hE : I_Earnest E) (m29 : zI M 29 = nI b) (v3 : zI V 3 = nI b) (hr : ∀ i, i < b → zA M 16 i = zA V 5 i ∧ zA M 17 i = zA V 6 i ∧ zA M 18 i = zA V 7 i ∧ zA M 20 i = zA V 10 i) (h19 : zA M 19 a = zA V 14 a) (hn : NowR M E) :
    ∀ (r i f g : Nat) (acc : Int32), i + r = b → r < f → r < g → ∃ x, Earnest_loudness_h6 N E V (nI a) t f acc (nI i) = some x ∧ Mo_heard_h5 N M (nI a) t g acc (nI i) = some x := by
  have hn0 := hn
  obtain ⟨⟨n0, n1, n2, n3, n4⟩, n5⟩ := hn
  have hp : (0 : Int) ≤ (zI E 2).toInt ∧ (zI E 2).toInt ≤ 99 := hE.1 2
  have hw : (0 : Int) ≤ (zI E 3).toInt ∧ (zI E 3).toInt ≤ 20 := hE.1 3
  intro r
  induction r with
  | zero =>
    intro i f g acc hi hf hg
    obtain ⟨f', rfl⟩ : ∃ f', f = f' + 1 := ⟨f - 1, by omega⟩
    obtain ⟨g', rfl⟩ : ∃ g', g = g' + 1 := ⟨g - 1, by omega⟩
    rw [Earnest_loudness_h6_s, Mo_heard_h5_s]
    unfold Earnest_loudness_b6 Mo_heard_b5
    rw [v3, m29, if_pos ((nI_leI (by omega) (by omega)).mpr (by omega)), if_pos ((nI_leI (by omega) (by omega)).mpr (by omega))]
    exact ⟨acc, rfl, rfl⟩
  | succ r ih =>
    intro i f g acc hi hf hg
    obtain ⟨f', rfl⟩ : ∃ f', f = f' + 1 := ⟨f - 1, by omega⟩
    obtain ⟨g', rfl⟩ : ∃ g', g = g' + 1 := ⟨g - 1, by omega⟩
    have skip : ∃ x, Earnest_loudness_b64 N (Earnest_loudness_h6 N E V (nI a) t f') E V (nI a) t acc (nI i) = some x ∧ Mo_heard_b68 N (Mo_heard_h5 N M (nI a) t g') M (nI a) t (nI i) acc = some x := by
      unfold Earnest_loudness_b64 Mo_heard_b68 Mo_heard_b69
      rw [Int32.add_zero, nI_1]
      exact ih (i + 1) f' g' acc (by omega) (by omega) (by omega)
    rw [Earnest_loudness_h6_s, Mo_heard_h5_s]
    unfold Earnest_loudness_b6 Mo_heard_b5
    rw [v3, m29, if_neg (fun q => absurd ((nI_leI (by omega) (by omega)).mp q) (by omega)), if_neg (fun q => absurd ((nI_leI (by omega) (by omega)).mp q) (by omega)), isThere_eq, isStanding_eq, n0, n1, n2, n3]
    simp only [zbs]
    by_cases c1 : ((zI E 0 >>> (nI i &&& 31)) &&& 1) = 0
    · rw [if_pos c1, if_neg (by rw [c1]; decide)]
      exact skip
    rw [if_neg c1, if_pos (bit_10.mp c1)]
    by_cases c2 : ((zI E 1 >>> (nI i &&& 31)) &&& 1) = 0
    · rw [if_pos c2, if_pos c2]
      obtain ⟨x5, x6, _⟩ := hr i (by omega)
      obtain ⟨rt, et, mt⟩ := tone_two (N := N) hb (show i < b by omega) x5 hn0
      rw [et, mt]
      simp only [zbs]
      by_cases c3 : rt = t
      · rw [if_pos c3, if_pos c3]
        obtain ⟨x, ex, mx⟩ := loud_two (N := N) (p := zI E 2) (w := zI E 3) hb (show i < b by omega) he ha hV x6 h19 hp hw
        rw [ex, mx]
        simp only [zbs]
        unfold Earnest_loudness_b64 Mo_heard_b69
        rw [nI_1]
        exact ih (i + 1) f' g' (acc + x) (by omega) (by omega) (by omega)
      · rw [if_neg c3, if_neg c3]
        exact skip
    · rw [if_neg c2, if_neg c2]
      exact skip
theorem heard_two {N b e a : Nat} (hN : 50000000 ≤ N) {V E M : zSt} {t : Int32} (hb : b ≤ 11) (he : e ≤ 4) (ha : a < e) (hV : I_Valley V) (hE : I_Earnest E) (m29 : zI M 29 = nI b) (v3 : zI V 3 = nI b) (hr : ∀ i, i < b → zA M 16 i = zA V 5 i ∧ zA M 17 i = zA V 6 i ∧ zA M 18 i = zA V 7 i ∧ zA M 20 i = zA V 10 i) (h19 : zA M 19 a = zA V 14 a) (hn : NowR M E) : ∃ x, Earnest_loudness N E V (nI a) t = some x ∧ Mo_heard N M (nI a) t = some x := by
  unfold Earnest_loudness Earnest_loudness_b0 Mo_heard Mo_heard_b0
  exact heard_loop hb he ha hV hE m29 v3 hr h19 hn b 0 N N 0 (by omega) (by omega) (by omega)
theorem hear_ans {N : Nat} {s0 V E M : zSt} {v1 v2 : Int32} (hN : 50000000 ≤ N) (h0 : I_CH s0) (hM : I_Mo M) (hV : I_Valley V) (hE : I_Earnest E) (hL : LandR M V) (hn : NowR M E) : ∃ z y, CH_hear N s0 V E v1 v2 = some z ∧ Mo_hear N M v1 v2 = some y ∧ z = y := by
  unfold CH_hear CH_hear_b0 Mo_hear Mo_hear_b0
  rw [hasEar_two hL.ears]
  obtain ⟨h, b, k, e, ⟨_, l2, _, _, l5⟩, ⟨_, v3, _, _⟩, ⟨_, b2, _, _, _, b6⟩, r1, r2, _⟩ := hL
  have e1 : Mo_isTone N v2 = (CH_within N v2 0 11).bind (fun z1 => zcb z1 (some z1)) := rfl
  rw [e1]
  rcases ear01 (N := N) (v := v1) l5 (by omega) with q | ⟨q, a, ha, rfl⟩ <;> rw [q] <;> simp only [zbs]
  · exact ⟨_, _, rfl, rfl, rfl⟩
  rw [if_neg n10, if_neg n10]
  rcases in01 N v2 0 11 with q | q <;> rw [q] <;> simp only [zbs]
  · rw [zcb_in (Or.inl rfl)]
    simp only [zbs]
    exact ⟨_, _, rfl, rfl, rfl⟩
  rw [zcb_in (Or.inr rfl)]
  simp only [zbs]
  rw [if_neg n10, if_neg n10]
  obtain ⟨x, ex, mx⟩ := heard_two (N := N) hN (t := v2) b2 b6 ha hV hE l2 v3 r1 (r2 a ha) hn
  rw [ex, mx]
  exact ⟨_, _, rfl, rfl, rfl⟩
theorem chord_loop {N b e a : Nat} (hN : 50000000 ≤ N) {s0 V E M : zSt} (hb : b ≤ 11) (he : e ≤ 4) (ha : a < e) (hV : I_Valley V) (hE : I_Earnest E) (m29 : zI M 29 = nI b) (v3 : zI V 3 = nI b) (hr : ∀ i, i < b → zA M 16 i = zA V 5 i ∧ zA M 17 i = zA V 6 i ∧ zA M 18 i = zA V 7 i ∧ zA M 20 i = zA V 10 i) (h19 : zA M 19 a = zA V 14 a) (hn : NowR M E) :
    ∀ (r t f g : Nat) (acc : Int32), t + r = 12 → r < f → r < g → ∃ x, CH_chord_h17 N s0 V E (nI a) f acc (nI t) = some x ∧ Mo_chord_h14 N M (nI a) g acc (nI t) = some x := by
  intro r
  induction r with
  | zero =>
    intro t f g acc hi hf hg
    obtain ⟨f', rfl⟩ : ∃ f', f = f' + 1 := ⟨f - 1, by omega⟩
    obtain ⟨g', rfl⟩ : ∃ g', g = g' + 1 := ⟨g - 1, by omega⟩
    rw [CH_chord_h17_s, Mo_chord_h14_s]
    unfold CH_chord_b17 Mo_chord_b14
    rw [if_pos ((zleR (k := 12) (by omega) (by decide)).mpr (by omega)), if_pos ((zleR (k := 12) (by omega) (by decide)).mpr (by omega))]
    exact ⟨acc, rfl, rfl⟩
  | succ r ih =>
    intro t f g acc hi hf hg
    obtain ⟨f', rfl⟩ : ∃ f', f = f' + 1 := ⟨f - 1, by omega⟩
    obtain ⟨g', rfl⟩ : ∃ g', g = g' + 1 := ⟨g - 1, by omega⟩
    rw [CH_chord_h17_s, Mo_chord_h14_s]
    unfold CH_chord_b17 Mo_chord_b14
    rw [if_neg (fun q => absurd ((zleR (k := 12) (by omega) (by decide)).mp q) (by omega)), if_neg (fun q => absurd ((zleR (k := 12) (by omega) (by decide)).mp q) (by omega))]
    obtain ⟨x, ex, mx⟩ := heard_two (N := N) hN (t := nI t) hb he ha hV hE m29 v3 hr h19 hn
    rw [ex, mx]
    simp only [zbs]
    unfold CH_chord_b45 Mo_chord_b37
    rw [nI_1]
    by_cases c : x ≤ 0
    · rw [if_pos c, if_pos c, Int32.or_zero]
      exact ih (t + 1) f' g' acc (by omega) (by omega) (by omega)
    · rw [if_neg c, if_neg c]
      exact ih (t + 1) f' g' _ (by omega) (by omega) (by omega)
theorem chord_ans {N : Nat} {s0 V E M : zSt} {v1 : Int32} (hN : 50000000 ≤ N) (h0 : I_CH s0) (hM : I_Mo M) (hV : I_Valley V) (hE : I_Earnest E) (hL : LandR M V) (hn : NowR M E) : ∃ z y, CH_chord N s0 V E v1 = some z ∧ Mo_chord N M v1 = some y ∧ z = y := by
  unfold CH_chord CH_chord_b0 Mo_chord Mo_chord_b0
  rw [hasEar_two hL.ears]
  obtain ⟨h, b, k, e, ⟨_, l2, _, _, l5⟩, ⟨_, v3, _, _⟩, ⟨_, b2, _, _, _, b6⟩, r1, r2, _⟩ := hL
  rcases ear01 (N := N) (v := v1) l5 (by omega) with q | ⟨q, a, ha, rfl⟩ <;> rw [q] <;> simp only [zbs]
  · exact ⟨_, _, rfl, rfl, rfl⟩
  rw [if_neg n10, if_neg n10]
  obtain ⟨x, ex, mx⟩ := chord_loop (N := N) (s0 := s0) hN b2 b6 ha hV hE l2 v3 r1 (r2 a ha) hn 12 0 N N 0 (by omega) (by omega) (by omega)
  exact ⟨x, x, ex, mx, rfl⟩
