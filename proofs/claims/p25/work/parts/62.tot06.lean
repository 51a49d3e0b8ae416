theorem t_Mo_lies_b0 (N : Nat) (hN : 50000000 ≤ N) (s0 : zSt) (v1 : Int32) (h_s0 : I_Mo s0) : zok (Mo_lies_b0 N s0 v1) (fun z => True) := by
  rw [Mo_lies_b0]
  have q1 := li_0
  have q2 : (0 : Int) ≤ ((zI s0 58)).toInt ∧ ((zI s0 58)).toInt ≤ 9 := (h_s0).1 58
  have q3 := li_1
  have q4 := tsub (zI s0 58) (1 : Int32) (by omega) (by omega)
  rcases u_Mo_isIn N v1 (0 : Int32) ((zI s0 58) - (1 : Int32))  with w5 | ⟨w5, w5_0, w5_1⟩ <;> rw [w5, zbs]
  · refine zok_t (by decide) ?_
    exact zok_some trivial
  · have q6 := tr v1
    have q7 : ((0 : Int32)).toInt ≤ (v1).toInt := w5_0
    have q8 : (v1).toInt ≤ (((zI s0 58) - (1 : Int32))).toInt := w5_1
    refine zok_f (by decide) ?_
    refine zok_ck (show vp_in v1 9 from vin (by omega) (by omega)) ?_
    exact zok_some trivial
theorem t_Mo_lies (N : Nat) (hN : 50000000 ≤ N) (s0 : zSt) (v1 : Int32) (h_s0 : I_Mo s0) : zok (Mo_lies N s0 v1) (fun z => True) :=
  t_Mo_lies_b0 N hN s0 v1  h_s0 
theorem t_Mo_isKnownNew_b118 (N : Nat) (hN : 50000000 ≤ N) (kh5 : Int32 → Int32 → Option (Int32)) (m5 : Int) (kh58 : Int32 → Int32 → Option (Int32)) (m58 : Int) (s0 : zSt) (v1 : Int32) (v2 : Int32) (v4 : Int32) (v5 : Int32) (v6 : Int32) (t0 : Int32) (hkh5 : ∀ (v3 : Int32) (v4 : Int32), (0 : Int) ≤ (v3).toInt ∧ (v3).toInt ≤ 1 → (0 : Int) ≤ (v4).toInt ∧ (v4).toInt ≤ 9 → 10 - (v4).toInt ≤ m5 - 1 → zok (kh5 v3 v4) (fun z => ((0 : Int) ≤ (z).toInt ∧ (z).toInt ≤ 1))) (hkh58 : ∀ (v3 : Int32) (v6 : Int32), (0 : Int) ≤ (v3).toInt ∧ (v3).toInt ≤ 1 → (0 : Int) ≤ (v6).toInt ∧ (v6).toInt ≤ 8 → 9 - (v6).toInt ≤ m58 - 1 → zok (kh58 v3 v6) (fun z => ((0 : Int) ≤ (z).toInt ∧ (z).toInt ≤ 1))) (h_s0 : I_Mo s0) (h_s0_30 : (1 : Int) ≤ (zI s0 30).toInt ∧ (zI s0 30).toInt ≤ 9) (h_v1 : (1 : Int) ≤ (v1).toInt ∧ (v1).toInt ≤ 99) (h_v2 : (0 : Int) ≤ (v2).toInt ∧ (v2).toInt ≤ 11) (h_v4 : (1 : Int) ≤ (v4).toInt ∧ (v4).toInt ≤ 8) (h_v5 : (0 : Int) ≤ (v5).toInt ∧ (v5).toInt ≤ 10) (h_v6 : (0 : Int) ≤ (v6).toInt ∧ (v6).toInt ≤ 7) (h_t0 : (0 : Int) ≤ (t0).toInt ∧ (t0).toInt ≤ 1) (hm5 : 10 - (v4).toInt ≤ m5) (hm58 : 9 - (v6).toInt ≤ m58) : zok (Mo_isKnownNew_b118 N kh5 kh58 s0 v1 v2 v4 v5 v6 t0) (fun z => ((0 : Int) ≤ (z).toInt ∧ (z).toInt ≤ 1)) := by
  rw [Mo_isKnownNew_b118]
  have q1 := li_1
  have q2 := tadd v6 (1 : Int32) (by omega) (by omega)
  exact hkh58 _ _ (show (0 : Int) ≤ (t0).toInt ∧ (t0).toInt ≤ 1 from ⟨by omega, by omega⟩) (show (0 : Int) ≤ ((v6 + (1 : Int32))).toInt ∧ ((v6 + (1 : Int32))).toInt ≤ 8 from ⟨by omega, by omega⟩) (show 9 - ((v6 + (1 : Int32))).toInt ≤ m58 - 1 by omega)
theorem t_Mo_isKnownNew_b117 (N : Nat) (hN : 50000000 ≤ N) (kh5 : Int32 → Int32 → Option (Int32)) (m5 : Int) (kh58 : Int32 → Int32 → Option (Int32)) (m58 : Int) (s0 : zSt) (v1 : Int32) (v2 : Int32) (v4 : Int32) (v5 : Int32) (v6 : Int32) (hkh5 : ∀ (v3 : Int32) (v4 : Int32), (0 : Int) ≤ (v3).toInt ∧ (v3).toInt ≤ 1 → (0 : Int) ≤ (v4).toInt ∧ (v4).toInt ≤ 9 → 10 - (v4).toInt ≤ m5 - 1 → zok (kh5 v3 v4) (fun z => ((0 : Int) ≤ (z).toInt ∧ (z).toInt ≤ 1))) (hkh58 : ∀ (v3 : Int32) (v6 : Int32), (0 : Int) ≤ (v3).toInt ∧ (v3).toInt ≤ 1 → (0 : Int) ≤ (v6).toInt ∧ (v6).toInt ≤ 8 → 9 - (v6).toInt ≤ m58 - 1 → zok (kh58 v3 v6) (fun z => ((0 : Int) ≤ (z).toInt ∧ (z).toInt ≤ 1))) (h_s0 : I_Mo s0) (h_s0_30 : (1 : Int) ≤ (zI s0 30).toInt ∧ (zI s0 30).toInt ≤ 9) (h_v1 : (1 : Int) ≤ (v1).toInt ∧ (v1).toInt ≤ 99) (h_v2 : (0 : Int) ≤ (v2).toInt ∧ (v2).toInt ≤ 11) (h_v4 : (1 : Int) ≤ (v4).toInt ∧ (v4).toInt ≤ 8) (h_v5 : (0 : Int) ≤ (v5).toInt ∧ (v5).toInt ≤ 10) (h_v6 : (0 : Int) ≤ (v6).toInt ∧ (v6).toInt ≤ 7) (hm5 : 10 - (v4).toInt ≤ m5) (hm58 : 9 - (v6).toInt ≤ m58) : zok (Mo_isKnownNew_b117 N kh5 kh58 s0 v1 v2 v4 v5 v6) (fun z => ((0 : Int) ≤ (z).toInt ∧ (z).toInt ≤ 1)) := by
  rw [Mo_isKnownNew_b117]
  have q1 : (0 : Int) ≤ ((zI s0 30)).toInt ∧ ((zI s0 30)).toInt ≤ 9 := (h_s0).1 30
  have q2 := li_0
  exact t_Mo_isKnownNew_b118 N hN kh5 m5 kh58 m58 _ _ _ _ _ _ _  hkh5 hkh58 h_s0 (show (1 : Int) ≤ ((zI s0 30)).toInt ∧ ((zI s0 30)).toInt ≤ 9 from ⟨by omega, by omega⟩) (show (1 : Int) ≤ (v1).toInt ∧ (v1).toInt ≤ 99 from ⟨by omega, by omega⟩) (show (0 : Int) ≤ (v2).toInt ∧ (v2).toInt ≤ 11 from ⟨by omega, by omega⟩) (show (1 : Int) ≤ (v4).toInt ∧ (v4).toInt ≤ 8 from ⟨by omega, by omega⟩) (show (0 : Int) ≤ (v5).toInt ∧ (v5).toInt ≤ 10 from ⟨by omega, by omega⟩) (show (0 : Int) ≤ (v6).toInt ∧ (v6).toInt ≤ 7 from ⟨by omega, by omega⟩) (show (0 : Int) ≤ ((0 : Int32)).toInt ∧ ((0 : Int32)).toInt ≤ 1 from ⟨by omega, by omega⟩) (show 10 - (v4).toInt ≤ m5 from by omega) (show 9 - (v6).toInt ≤ m58 from by omega)
theorem t_Mo_isKnownNew_b113 (N : Nat) (hN : 50000000 ≤ N) (kh5 : Int32 → Int32 → Option (Int32)) (m5 : Int) (kh58 : Int32 → Int32 → Option (Int32)) (m58 : Int) (s0 : zSt) (v1 : Int32) (v2 : Int32) (v4 : Int32) (v5 : Int32) (v6 : Int32) (hkh5 : ∀ (v3 : Int32) (v4 : Int32), (0 : Int) ≤ (v3).toInt ∧ (v3).toInt ≤ 1 → (0 : Int) ≤ (v4).toInt ∧ (v4).toInt ≤ 9 → 10 - (v4).toInt ≤ m5 - 1 → zok (kh5 v3 v4) (fun z => ((0 : Int) ≤ (z).toInt ∧ (z).toInt ≤ 1))) (hkh58 : ∀ (v3 : Int32) (v6 : Int32), (0 : Int) ≤ (v3).toInt ∧ (v3).toInt ≤ 1 → (0 : Int) ≤ (v6).toInt ∧ (v6).toInt ≤ 8 → 9 - (v6).toInt ≤ m58 - 1 → zok (kh58 v3 v6) (fun z => ((0 : Int) ≤ (z).toInt ∧ (z).toInt ≤ 1))) (h_s0 : I_Mo s0) (h_s0_30 : (1 : Int) ≤ (zI s0 30).toInt ∧ (zI s0 30).toInt ≤ 9) (h_v1 : (1 : Int) ≤ (v1).toInt ∧ (v1).toInt ≤ 99) (h_v2 : (0 : Int) ≤ (v2).toInt ∧ (v2).toInt ≤ 11) (h_v4 : (1 : Int) ≤ (v4).toInt ∧ (v4).toInt ≤ 8) (h_v5 : (0 : Int) ≤ (v5).toInt ∧ (v5).toInt ≤ 10) (h_v6 : (0 : Int) ≤ (v6).toInt ∧ (v6).toInt ≤ 7) (hm5 : 10 - (v4).toInt ≤ m5) (hm58 : 9 - (v6).toInt ≤ m58) : zok (Mo_isKnownNew_b113 N kh5 kh58 s0 v1 v2 v4 v5 v6) (fun z => ((0 : Int) ≤ (z).toInt ∧ (z).toInt ≤ 1)) := by
  rw [Mo_isKnownNew_b113]
  have q1 : (0 : Int) ≤ ((zI s0 30)).toInt ∧ ((zI s0 30)).toInt ≤ 9 := (h_s0).1 30
  have q2 := li_1
  exact t_Mo_isKnownNew_b118 N hN kh5 m5 kh58 m58 _ _ _ _ _ _ _  hkh5 hkh58 h_s0 (show (1 : Int) ≤ ((zI s0 30)).toInt ∧ ((zI s0 30)).toInt ≤ 9 from ⟨by omega, by omega⟩) (show (1 : Int) ≤ (v1).toInt ∧ (v1).toInt ≤ 99 from ⟨by omega, by omega⟩) (show (0 : Int) ≤ (v2).toInt ∧ (v2).toInt ≤ 11 from ⟨by omega, by omega⟩) (show (1 : Int) ≤ (v4).toInt ∧ (v4).toInt ≤ 8 from ⟨by omega, by omega⟩) (show (0 : Int) ≤ (v5).toInt ∧ (v5).toInt ≤ 10 from ⟨by omega, by omega⟩) (show (0 : Int) ≤ (v6).toInt ∧ (v6).toInt ≤ 7 from ⟨by omega, by omega⟩) (show (0 : Int) ≤ ((1 : Int32)).toInt ∧ ((1 : Int32)).toInt ≤ 1 from ⟨by omega, by omega⟩) (show 10 - (v4).toInt ≤ m5 from by omega) (show 9 - (v6).toInt ≤ m58 from by omega)
theorem t_Mo_isKnownNew_b58 (N : Nat) (hN : 50000000 ≤ N) (kh5 : Int32 → Int32 → Option (Int32)) (m5 : Int) (kh58 : Int32 → Int32 → Option (Int32)) (m58 : Int) (s0 : zSt) (v1 : Int32) (v2 : Int32) (v3 : Int32) (v4 : Int32) (v5 : Int32) (v6 : Int32) (hkh5 : ∀ (v3 : Int32) (v4 : Int32), (0 : Int) ≤ (v3).toInt ∧ (v3).toInt ≤ 1 → (0 : Int) ≤ (v4).toInt ∧ (v4).toInt ≤ 9 → 10 - (v4).toInt ≤ m5 - 1 → zok (kh5 v3 v4) (fun z => ((0 : Int) ≤ (z).toInt ∧ (z).toInt ≤ 1))) (hkh58 : ∀ (v3 : Int32) (v6 : Int32), (0 : Int) ≤ (v3).toInt ∧ (v3).toInt ≤ 1 → (0 : Int) ≤ (v6).toInt ∧ (v6).toInt ≤ 8 → 9 - (v6).toInt ≤ m58 - 1 → zok (kh58 v3 v6) (fun z => ((0 : Int) ≤ (z).toInt ∧ (z).toInt ≤ 1))) (h_s0 : I_Mo s0) (h_s0_30 : (1 : Int) ≤ (zI s0 30).toInt ∧ (zI s0 30).toInt ≤ 9) (h_v1 : (1 : Int) ≤ (v1).toInt ∧ (v1).toInt ≤ 99) (h_v2 : (0 : Int) ≤ (v2).toInt ∧ (v2).toInt ≤ 11) (h_v3 : (0 : Int) ≤ (v3).toInt ∧ (v3).toInt ≤ 1) (h_v4 : (0 : Int) ≤ (v4).toInt ∧ (v4).toInt ≤ 8) (h_v5 : (0 : Int) ≤ (v5).toInt ∧ (v5).toInt ≤ 10) (h_v6 : (0 : Int) ≤ (v6).toInt ∧ (v6).toInt ≤ 8) (hm5 : 10 - (v4).toInt ≤ m5) (hm58 : 9 - (v6).toInt ≤ m58) : zok (Mo_isKnownNew_b58 N kh5 kh58 s0 v1 v2 v3 v4 v5 v6) (fun z => ((0 : Int) ≤ (z).toInt ∧ (z).toInt ≤ 1)) := by
  rw [Mo_isKnownNew_b58]
  refine zok_ite (fun c1 => ?_) (fun c1 => ?_)
  · have q2 : (v4).toInt ≤ (v6).toInt := tle c1
    have q3 := li_1
    have q4 := tadd v4 (1 : Int32) (by omega) (by omega)
    exact hkh5 _ _ (show (0 : Int) ≤ (v3).toInt ∧ (v3).toInt ≤ 1 from ⟨by omega, by omega⟩) (show (0 : Int) ≤ ((v4 + (1 : Int32))).toInt ∧ ((v4 + (1 : Int32))).toInt ≤ 9 from ⟨by omega, by omega⟩) (show 10 - ((v4 + (1 : Int32))).toInt ≤ m5 - 1 by omega)
  · have q5 : (v4).toInt > (v6).toInt := tnle c1
    have q7 := li_0
    refine zok_ite (fun c6 => ?_) (fun c6 => ?_)
    · have q8 : (v3).toInt = ((0 : Int32)).toInt := teq c6
      have q9 : (0 : Int) ≤ ((zI s0 30)).toInt ∧ ((zI s0 30)).toInt ≤ 9 := (h_s0).1 30
      exact t_Mo_isKnownNew_b117 N hN kh5 m5 kh58 m58 _ _ _ _ _ _  hkh5 hkh58 h_s0 (show (1 : Int) ≤ ((zI s0 30)).toInt ∧ ((zI s0 30)).toInt ≤ 9 from ⟨by omega, by omega⟩) (show (1 : Int) ≤ (v1).toInt ∧ (v1).toInt ≤ 99 from ⟨by omega, by omega⟩) (show (0 : Int) ≤ (v2).toInt ∧ (v2).toInt ≤ 11 from ⟨by omega, by omega⟩) (show (1 : Int) ≤ (v4).toInt ∧ (v4).toInt ≤ 8 from ⟨by omega, by omega⟩) (show (0 : Int) ≤ (v5).toInt ∧ (v5).toInt ≤ 10 from ⟨by omega, by omega⟩) (show (0 : Int) ≤ (v6).toInt ∧ (v6).toInt ≤ 7 from ⟨by omega, by omega⟩) (show 10 - (v4).toInt ≤ m5 from by omega) (show 9 - (v6).toInt ≤ m58 from by omega)
    · have q10 : (v3).toInt ≠ ((0 : Int32)).toInt := tneq c6
      refine zok_ck (show vp_in v5 11 from vin (by omega) (by omega)) ?_
      refine zok_ck (show vp_in v6 9 from vin (by omega) (by omega)) ?_
      have q11 : (0 : Int) ≤ (((zA s0 21) (Int32.toNatClampNeg v6))).toInt ∧ (((zA s0 21) (Int32.toNatClampNeg v6))).toInt ≤ 10 := (h_s0).2 21 _
      refine zok_ck (show vp_in ((zA s0 21) (Int32.toNatClampNeg v6)) 11 from vin (by omega) (by omega)) ?_
      have q13 := tr ((zA s0 16) (Int32.toNatClampNeg v5))
      have q14 := tr ((zA s0 16) (Int32.toNatClampNeg ((zA s0 21) (Int32.toNatClampNeg v6))))
      refine zok_ite (fun c12 => ?_) (fun c12 => ?_)
      · have q15 : (((zA s0 16) (Int32.toNatClampNeg v5))).toInt = (((zA s0 16) (Int32.toNatClampNeg ((zA s0 21) (Int32.toNatClampNeg v6))))).toInt := teq c12
        refine zok_ck (show vp_in v5 11 from vin (by omega) (by omega)) ?_
        refine zok_ck (show vp_in v6 9 from vin (by omega) (by omega)) ?_
        refine zok_ck (show vp_in ((zA s0 21) (Int32.toNatClampNeg v6)) 11 from vin (by omega) (by omega)) ?_
        have q17 := tr ((zA s0 17) (Int32.toNatClampNeg v5))
        have q18 := tr ((zA s0 17) (Int32.toNatClampNeg ((zA s0 21) (Int32.toNatClampNeg v6))))
        refine zok_ite (fun c16 => ?_) (fun c16 => ?_)
        · have q19 : (((zA s0 17) (Int32.toNatClampNeg v5))).toInt = (((zA s0 17) (Int32.toNatClampNeg ((zA s0 21) (Int32.toNatClampNeg v6))))).toInt := teq c16
          have q20 : (0 : Int) ≤ ((zI s0 30)).toInt ∧ ((zI s0 30)).toInt ≤ 9 := (h_s0).1 30
          exact t_Mo_isKnownNew_b117 N hN kh5 m5 kh58 m58 _ _ _ _ _ _  hkh5 hkh58 h_s0 (show (1 : Int) ≤ ((zI s0 30)).toInt ∧ ((zI s0 30)).toInt ≤ 9 from ⟨by omega, by omega⟩) (show (1 : Int) ≤ (v1).toInt ∧ (v1).toInt ≤ 99 from ⟨by omega, by omega⟩) (show (0 : Int) ≤ (v2).toInt ∧ (v2).toInt ≤ 11 from ⟨by omega, by omega⟩) (show (1 : Int) ≤ (v4).toInt ∧ (v4).toInt ≤ 8 from ⟨by omega, by omega⟩) (show (0 : Int) ≤ (v5).toInt ∧ (v5).toInt ≤ 10 from ⟨by omega, by omega⟩) (show (0 : Int) ≤ (v6).toInt ∧ (v6).toInt ≤ 7 from ⟨by omega, by omega⟩) (show 10 - (v4).toInt ≤ m5 from by omega) (show 9 - (v6).toInt ≤ m58 from by omega)
        · have q21 : (((zA s0 17) (Int32.toNatClampNeg v5))).toInt ≠ (((zA s0 17) (Int32.toNatClampNeg ((zA s0 21) (Int32.toNatClampNeg v6))))).toInt := tneq c16
          have q22 : (0 : Int) ≤ ((zI s0 30)).toInt ∧ ((zI s0 30)).toInt ≤ 9 := (h_s0).1 30
          exact t_Mo_isKnownNew_b113 N hN kh5 m5 kh58 m58 _ _ _ _ _ _  hkh5 hkh58 h_s0 (show (1 : Int) ≤ ((zI s0 30)).toInt ∧ ((zI s0 30)).toInt ≤ 9 from ⟨by omega, by omega⟩) (show (1 : Int) ≤ (v1).toInt ∧ (v1).toInt ≤ 99 from ⟨by omega, by omega⟩) (show (0 : Int) ≤ (v2).toInt ∧ (v2).toInt ≤ 11 from ⟨by omega, by omega⟩) (show (1 : Int) ≤ (v4).toInt ∧ (v4).toInt ≤ 8 from ⟨by omega, by omega⟩) (show (0 : Int) ≤ (v5).toInt ∧ (v5).toInt ≤ 10 from ⟨by omega, by omega⟩) (show (0 : Int) ≤ (v6).toInt ∧ (v6).toInt ≤ 7 from ⟨by omega, by omega⟩) (show 10 - (v4).toInt ≤ m5 from by omega) (show 9 - (v6).toInt ≤ m58 from by omega)
      · have q23 : (((zA s0 16) (Int32.toNatClampNeg v5))).toInt ≠ (((zA s0 16) (Int32.toNatClampNeg ((zA s0 21) (Int32.toNatClampNeg v6))))).toInt := tneq c12
        have q24 : (0 : Int) ≤ ((zI s0 30)).toInt ∧ ((zI s0 30)).toInt ≤ 9 := (h_s0).1 30
        exact t_Mo_isKnownNew_b113 N hN kh5 m5 kh58 m58 _ _ _ _ _ _  hkh5 hkh58 h_s0 (show (1 : Int) ≤ ((zI s0 30)).toInt ∧ ((zI s0 30)).toInt ≤ 9 from ⟨by omega, by omega⟩) (show (1 : Int) ≤ (v1).toInt ∧ (v1).toInt ≤ 99 from ⟨by omega, by omega⟩) (show (0 : Int) ≤ (v2).toInt ∧ (v2).toInt ≤ 11 from ⟨by omega, by omega⟩) (show (1 : Int) ≤ (v4).toInt ∧ (v4).toInt ≤ 8 from ⟨by omega, by omega⟩) (show (0 : Int) ≤ (v5).toInt ∧ (v5).toInt ≤ 10 from ⟨by omega, by omega⟩) (show (0 : Int) ≤ (v6).toInt ∧ (v6).toInt ≤ 7 from ⟨by omega, by omega⟩) (show 10 - (v4).toInt ≤ m5 from by omega) (show 9 - (v6).toInt ≤ m58 from by omega)
theorem t_Mo_isKnownNew_h58 (N : Nat) (hN : 50000000 ≤ N) (kh5 : Int32 → Int32 → Option (Int32)) (m5 : Int) (s0 : zSt) (v1 : Int32) (v2 : Int32) (v4 : Int32) (v5 : Int32) (hkh5 : ∀ (v3 : Int32) (v4 : Int32), (0 : Int) ≤ (v3).toInt ∧ (v3).toInt ≤ 1 → (0 : Int) ≤ (v4).toInt ∧ (v4).toInt ≤ 9 → 10 - (v4).toInt ≤ m5 - 1 → zok (kh5 v3 v4) (fun z => ((0 : Int) ≤ (z).toInt ∧ (z).toInt ≤ 1))) (h_s0 : I_Mo s0) (h_s0_30 : (1 : Int) ≤ (zI s0 30).toInt ∧ (zI s0 30).toInt ≤ 9) (h_v1 : (1 : Int) ≤ (v1).toInt ∧ (v1).toInt ≤ 99) (h_v2 : (0 : Int) ≤ (v2).toInt ∧ (v2).toInt ≤ 11) (h_v4 : (0 : Int) ≤ (v4).toInt ∧ (v4).toInt ≤ 8) (h_v5 : (0 : Int) ≤ (v5).toInt ∧ (v5).toInt ≤ 10) (hm5 : 10 - (v4).toInt ≤ m5) : ∀ (n : Nat) (v3 : Int32) (v6 : Int32), (0 : Int) ≤ (v3).toInt ∧ (v3).toInt ≤ 1 → (0 : Int) ≤ (v6).toInt ∧ (v6).toInt ≤ 8 → 9 - (v6).toInt ≤ (n : Int) → zok (Mo_isKnownNew_h58 N kh5 s0 v1 v2 v4 v5 n v3 v6) (fun z => ((0 : Int) ≤ (z).toInt ∧ (z).toInt ≤ 1))
  | 0, v3, v6, h_v3, h_v6, hm => absurd hm (by omega)
  | n + 1, v3, v6, h_v3, h_v6, hm => by
    rw [Mo_isKnownNew_h58_s]
    exact t_Mo_isKnownNew_b58 N hN kh5 m5 (Mo_isKnownNew_h58 N kh5 s0 v1 v2 v4 v5 n) ((n + 1 : Nat) : Int) s0 v1 v2 v3 v4 v5 v6  hkh5 (fun v3 v6 h_v3 h_v6 q => t_Mo_isKnownNew_h58 N hN kh5 m5 s0 v1 v2 v4 v5  hkh5 h_s0 h_s0_30 h_v1 h_v2 h_v4 h_v5  hm5 n v3 v6 h_v3 h_v6 (by omega)) h_s0 h_s0_30 h_v1 h_v2 h_v3 h_v4 h_v5 h_v6  hm5 hm
theorem t_Mo_isKnownNew_b54 (N : Nat) (hN : 50000000 ≤ N) (kh5 : Int32 → Int32 → Option (Int32)) (m5 : Int) (s0 : zSt) (v1 : Int32) (v2 : Int32) (v4 : Int32) (v5 : Int32) (t0 : Int32) (hkh5 : ∀ (v3 : Int32) (v4 : Int32), (0 : Int) ≤ (v3).toInt ∧ (v3).toInt ≤ 1 → (0 : Int) ≤ (v4).toInt ∧ (v4).toInt ≤ 9 → 10 - (v4).toInt ≤ m5 - 1 → zok (kh5 v3 v4) (fun z => ((0 : Int) ≤ (z).toInt ∧ (z).toInt ≤ 1))) (h_s0 : I_Mo s0) (h_s0_30 : (1 : Int) ≤ (zI s0 30).toInt ∧ (zI s0 30).toInt ≤ 9) (h_v1 : (1 : Int) ≤ (v1).toInt ∧ (v1).toInt ≤ 99) (h_v2 : (0 : Int) ≤ (v2).toInt ∧ (v2).toInt ≤ 11) (h_v4 : (0 : Int) ≤ (v4).toInt ∧ (v4).toInt ≤ 8) (h_v5 : (0 : Int) ≤ (v5).toInt ∧ (v5).toInt ≤ 10) (h_t0 : (0 : Int) ≤ (t0).toInt ∧ (t0).toInt ≤ 1) (hm5 : 10 - (v4).toInt ≤ m5) : zok (Mo_isKnownNew_b54 N kh5 s0 v1 v2 v4 v5 t0) (fun z => ((0 : Int) ≤ (z).toInt ∧ (z).toInt ≤ 1)) := by
  rw [Mo_isKnownNew_b54]
  have q1 : (0 : Int) ≤ ((zI s0 30)).toInt ∧ ((zI s0 30)).toInt ≤ 9 := (h_s0).1 30
  have q2 := li_0
  exact t_Mo_isKnownNew_h58 N hN kh5 m5 _ _ _ _ _  hkh5 h_s0 (show (1 : Int) ≤ ((zI s0 30)).toInt ∧ ((zI s0 30)).toInt ≤ 9 from ⟨by omega, by omega⟩) (show (1 : Int) ≤ (v1).toInt ∧ (v1).toInt ≤ 99 from ⟨by omega, by omega⟩) (show (0 : Int) ≤ (v2).toInt ∧ (v2).toInt ≤ 11 from ⟨by omega, by omega⟩) (show (0 : Int) ≤ (v4).toInt ∧ (v4).toInt ≤ 8 from ⟨by omega, by omega⟩) (show (0 : Int) ≤ (v5).toInt ∧ (v5).toInt ≤ 10 from ⟨by omega, by omega⟩) (show 10 - (v4).toInt ≤ m5 from by omega) N _ _ (show (0 : Int) ≤ (t0).toInt ∧ (t0).toInt ≤ 1 from ⟨by omega, by omega⟩) (show (0 : Int) ≤ ((0 : Int32)).toInt ∧ ((0 : Int32)).toInt ≤ 8 from ⟨by omega, by omega⟩) (show 9 - ((0 : Int32)).toInt ≤ (N : Int) from by omega)
theorem t_Mo_isKnownNew_b53 (N : Nat) (hN : 50000000 ≤ N) (kh5 : Int32 → Int32 → Option (Int32)) (m5 : Int) (s0 : zSt) (v1 : Int32) (v2 : Int32) (v4 : Int32) (v5 : Int32) (hkh5 : ∀ (v3 : Int32) (v4 : Int32), (0 : Int) ≤ (v3).toInt ∧ (v3).toInt ≤ 1 → (0 : Int) ≤ (v4).toInt ∧ (v4).toInt ≤ 9 → 10 - (v4).toInt ≤ m5 - 1 → zok (kh5 v3 v4) (fun z => ((0 : Int) ≤ (z).toInt ∧ (z).toInt ≤ 1))) (h_s0 : I_Mo s0) (h_s0_30 : (1 : Int) ≤ (zI s0 30).toInt ∧ (zI s0 30).toInt ≤ 9) (h_v1 : (1 : Int) ≤ (v1).toInt ∧ (v1).toInt ≤ 99) (h_v2 : (0 : Int) ≤ (v2).toInt ∧ (v2).toInt ≤ 11) (h_v4 : (0 : Int) ≤ (v4).toInt ∧ (v4).toInt ≤ 8) (h_v5 : (0 : Int) ≤ (v5).toInt ∧ (v5).toInt ≤ 10) (hm5 : 10 - (v4).toInt ≤ m5) : zok (Mo_isKnownNew_b53 N kh5 s0 v1 v2 v4 v5) (fun z => ((0 : Int) ≤ (z).toInt ∧ (z).toInt ≤ 1)) := by
  rw [Mo_isKnownNew_b53]
  have q1 : (0 : Int) ≤ ((zI s0 30)).toInt ∧ ((zI s0 30)).toInt ≤ 9 := (h_s0).1 30
  have q2 := li_0
  exact t_Mo_isKnownNew_b54 N hN kh5 m5 _ _ _ _ _ _  hkh5 h_s0 (show (1 : Int) ≤ ((zI s0 30)).toInt ∧ ((zI s0 30)).toInt ≤ 9 from ⟨by omega, by omega⟩) (show (1 : Int) ≤ (v1).toInt ∧ (v1).toInt ≤ 99 from ⟨by omega, by omega⟩) (show (0 : Int) ≤ (v2).toInt ∧ (v2).toInt ≤ 11 from ⟨by omega, by omega⟩) (show (0 : Int) ≤ (v4).toInt ∧ (v4).toInt ≤ 8 from ⟨by omega, by omega⟩) (show (0 : Int) ≤ (v5).toInt ∧ (v5).toInt ≤ 10 from ⟨by omega, by omega⟩) (show (0 : Int) ≤ ((0 : Int32)).toInt ∧ ((0 : Int32)).toInt ≤ 1 from ⟨by omega, by omega⟩) (show 10 - (v4).toInt ≤ m5 from by omega)
theorem t_Mo_isKnownNew_b49 (N : Nat) (hN : 50000000 ≤ N) (kh5 : Int32 → Int32 → Option (Int32)) (m5 : Int) (s0 : zSt) (v1 : Int32) (v2 : Int32) (v4 : Int32) (v5 : Int32) (hkh5 : ∀ (v3 : Int32) (v4 : Int32), (0 : Int) ≤ (v3).toInt ∧ (v3).toInt ≤ 1 → (0 : Int) ≤ (v4).toInt ∧ (v4).toInt ≤ 9 → 10 - (v4).toInt ≤ m5 - 1 → zok (kh5 v3 v4) (fun z => ((0 : Int) ≤ (z).toInt ∧ (z).toInt ≤ 1))) (h_s0 : I_Mo s0) (h_s0_30 : (1 : Int) ≤ (zI s0 30).toInt ∧ (zI s0 30).toInt ≤ 9) (h_v1 : (1 : Int) ≤ (v1).toInt ∧ (v1).toInt ≤ 99) (h_v2 : (0 : Int) ≤ (v2).toInt ∧ (v2).toInt ≤ 11) (h_v4 : (0 : Int) ≤ (v4).toInt ∧ (v4).toInt ≤ 8) (h_v5 : (0 : Int) ≤ (v5).toInt ∧ (v5).toInt ≤ 10) (hm5 : 10 - (v4).toInt ≤ m5) : zok (Mo_isKnownNew_b49 N kh5 s0 v1 v2 v4 v5) (fun z => ((0 : Int) ≤ (z).toInt ∧ (z).toInt ≤ 1)) := by
  rw [Mo_isKnownNew_b49]
  have q1 : (0 : Int) ≤ ((zI s0 30)).toInt ∧ ((zI s0 30)).toInt ≤ 9 := (h_s0).1 30
  have q2 := li_1
  exact t_Mo_isKnownNew_b54 N hN kh5 m5 _ _ _ _ _ _  hkh5 h_s0 (show (1 : Int) ≤ ((zI s0 30)).toInt ∧ ((zI s0 30)).toInt ≤ 9 from ⟨by omega, by omega⟩) (show (1 : Int) ≤ (v1).toInt ∧ (v1).toInt ≤ 99 from ⟨by omega, by omega⟩) (show (0 : Int) ≤ (v2).toInt ∧ (v2).toInt ≤ 11 from ⟨by omega, by omega⟩) (show (0 : Int) ≤ (v4).toInt ∧ (v4).toInt ≤ 8 from ⟨by omega, by omega⟩) (show (0 : Int) ≤ (v5).toInt ∧ (v5).toInt ≤ 10 from ⟨by omega, by omega⟩) (show (0 : Int) ≤ ((1 : Int32)).toInt ∧ ((1 : Int32)).toInt ≤ 1 from ⟨by omega, by omega⟩) (show 10 - (v4).toInt ≤ m5 from by omega)
theorem t_Mo_isKnownNew_b5 (N : Nat) (hN : 50000000 ≤ N) (kh5 : Int32 → Int32 → Option (Int32)) (m5 : Int) (s0 : zSt) (v1 : Int32) (v2 : Int32) (v3 : Int32) (v4 : Int32) (hkh5 : ∀ (v3 : Int32) (v4 : Int32), (0 : Int) ≤ (v3).toInt ∧ (v3).toInt ≤ 1 → (0 : Int) ≤ (v4).toInt ∧ (v4).toInt ≤ 9 → 10 - (v4).toInt ≤ m5 - 1 → zok (kh5 v3 v4) (fun z => ((0 : Int) ≤ (z).toInt ∧ (z).toInt ≤ 1))) (h_s0 : I_Mo s0) (h_v1 : (1 : Int) ≤ (v1).toInt ∧ (v1).toInt ≤ 99) (h_v2 : (0 : Int) ≤ (v2).toInt ∧ (v2).toInt ≤ 11) (h_v3 : (0 : Int) ≤ (v3).toInt ∧ (v3).toInt ≤ 1) (h_v4 : (0 : Int) ≤ (v4).toInt ∧ (v4).toInt ≤ 9) (hm5 : 10 - (v4).toInt ≤ m5) : zok (Mo_isKnownNew_b5 N kh5 s0 v1 v2 v3 v4) (fun z => ((0 : Int) ≤ (z).toInt ∧ (z).toInt ≤ 1)) := by
  rw [Mo_isKnownNew_b5]
  have q2 : (0 : Int) ≤ ((zI s0 30)).toInt ∧ ((zI s0 30)).toInt ≤ 9 := (h_s0).1 30
  refine zok_ite (fun c1 => ?_) (fun c1 => ?_)
  · have q3 : ((zI s0 30)).toInt ≤ (v4).toInt := tle c1
    refine zok_cb (t01 (by omega) (by omega)) ?_
    exact zok_some (show (0 : Int) ≤ (v3).toInt ∧ (v3).toInt ≤ 1 from ⟨by omega, by omega⟩)
  · have q4 : ((zI s0 30)).toInt > (v4).toInt := tnle c1
    refine zok_ck (show vp_in v4 9 from vin (by omega) (by omega)) ?_
    have q6 := li_0
    refine zok_ite (fun c5 => ?_) (fun c5 => ?_)
    · have q7 : (v3).toInt = ((0 : Int32)).toInt := teq c5
      have q8 : (0 : Int) ≤ (((zA s0 21) (Int32.toNatClampNeg v4))).toInt ∧ (((zA s0 21) (Int32.toNatClampNeg v4))).toInt ≤ 10 := (h_s0).2 21 _
      exact t_Mo_isKnownNew_b53 N hN kh5 m5 _ _ _ _ _  hkh5 h_s0 (show (1 : Int) ≤ ((zI s0 30)).toInt ∧ ((zI s0 30)).toInt ≤ 9 from ⟨by omega, by omega⟩) (show (1 : Int) ≤ (v1).toInt ∧ (v1).toInt ≤ 99 from ⟨by omega, by omega⟩) (show (0 : Int) ≤ (v2).toInt ∧ (v2).toInt ≤ 11 from ⟨by omega, by omega⟩) (show (0 : Int) ≤ (v4).toInt ∧ (v4).toInt ≤ 8 from ⟨by omega, by omega⟩) (show (0 : Int) ≤ (((zA s0 21) (Int32.toNatClampNeg v4))).toInt ∧ (((zA s0 21) (Int32.toNatClampNeg v4))).toInt ≤ 10 from ⟨by omega, by omega⟩) (show 10 - (v4).toInt ≤ m5 from by omega)
    · have q9 : (v3).toInt ≠ ((0 : Int32)).toInt := tneq c5
      have q10 : (0 : Int) ≤ (((zA s0 21) (Int32.toNatClampNeg v4))).toInt ∧ (((zA s0 21) (Int32.toNatClampNeg v4))).toInt ≤ 10 := (h_s0).2 21 _
      refine zok_ck (show vp_in ((zA s0 21) (Int32.toNatClampNeg v4)) 11 from vin (by omega) (by omega)) ?_
      have q12 := tr ((zA s0 16) (Int32.toNatClampNeg ((zA s0 21) (Int32.toNatClampNeg v4))))
      refine zok_ite (fun c11 => ?_) (fun c11 => ?_)
      · have q13 : (((zA s0 16) (Int32.toNatClampNeg ((zA s0 21) (Int32.toNatClampNeg v4))))).toInt = (v2).toInt := teq c11
        refine zok_ck (show vp_in ((zA s0 21) (Int32.toNatClampNeg v4)) 11 from vin (by omega) (by omega)) ?_
        have q15 := tr ((zA s0 17) (Int32.toNatClampNeg ((zA s0 21) (Int32.toNatClampNeg v4))))
        refine zok_ite (fun c14 => ?_) (fun c14 => ?_)
        · have q16 : (((zA s0 17) (Int32.toNatClampNeg ((zA s0 21) (Int32.toNatClampNeg v4))))).toInt = (v1).toInt := teq c14
          exact t_Mo_isKnownNew_b53 N hN kh5 m5 _ _ _ _ _  hkh5 h_s0 (show (1 : Int) ≤ ((zI s0 30)).toInt ∧ ((zI s0 30)).toInt ≤ 9 from ⟨by omega, by omega⟩) (show (1 : Int) ≤ (v1).toInt ∧ (v1).toInt ≤ 99 from ⟨by omega, by omega⟩) (show (0 : Int) ≤ (v2).toInt ∧ (v2).toInt ≤ 11 from ⟨by omega, by omega⟩) (show (0 : Int) ≤ (v4).toInt ∧ (v4).toInt ≤ 8 from ⟨by omega, by omega⟩) (show (0 : Int) ≤ (((zA s0 21) (Int32.toNatClampNeg v4))).toInt ∧ (((zA s0 21) (Int32.toNatClampNeg v4))).toInt ≤ 10 from ⟨by omega, by omega⟩) (show 10 - (v4).toInt ≤ m5 from by omega)
        · have q17 : (((zA s0 17) (Int32.toNatClampNeg ((zA s0 21) (Int32.toNatClampNeg v4))))).toInt ≠ (v1).toInt := tneq c14
          exact t_Mo_isKnownNew_b49 N hN kh5 m5 _ _ _ _ _  hkh5 h_s0 (show (1 : Int) ≤ ((zI s0 30)).toInt ∧ ((zI s0 30)).toInt ≤ 9 from ⟨by omega, by omega⟩) (show (1 : Int) ≤ (v1).toInt ∧ (v1).toInt ≤ 99 from ⟨by omega, by omega⟩) (show (0 : Int) ≤ (v2).toInt ∧ (v2).toInt ≤ 11 from ⟨by omega, by omega⟩) (show (0 : Int) ≤ (v4).toInt ∧ (v4).toInt ≤ 8 from ⟨by omega, by omega⟩) (show (0 : Int) ≤ (((zA s0 21) (Int32.toNatClampNeg v4))).toInt ∧ (((zA s0 21) (Int32.toNatClampNeg v4))).toInt ≤ 10 from ⟨by omega, by omega⟩) (show 10 - (v4).toInt ≤ m5 from by omega)
      · have q18 : (((zA s0 16) (Int32.toNatClampNeg ((zA s0 21) (Int32.toNatClampNeg v4))))).toInt ≠ (v2).toInt := tneq c11
        exact t_Mo_isKnownNew_b49 N hN kh5 m5 _ _ _ _ _  hkh5 h_s0 (show (1 : Int) ≤ ((zI s0 30)).toInt ∧ ((zI s0 30)).toInt ≤ 9 from ⟨by omega, by omega⟩) (show (1 : Int) ≤ (v1).toInt ∧ (v1).toInt ≤ 99 from ⟨by omega, by omega⟩) (show (0 : Int) ≤ (v2).toInt ∧ (v2).toInt ≤ 11 from ⟨by omega, by omega⟩) (show (0 : Int) ≤ (v4).toInt ∧ (v4).toInt ≤ 8 from ⟨by omega, by omega⟩) (show (0 : Int) ≤ (((zA s0 21) (Int32.toNatClampNeg v4))).toInt ∧ (((zA s0 21) (Int32.toNatClampNeg v4))).toInt ≤ 10 from ⟨by omega, by omega⟩) (show 10 - (v4).toInt ≤ m5 from by omega)
theorem t_Mo_isKnownNew_h5 (N : Nat) (hN : 50000000 ≤ N) (s0 : zSt) (v1 : Int32) (v2 : Int32) (h_s0 : I_Mo s0) (h_v1 : (1 : Int) ≤ (v1).toInt ∧ (v1).toInt ≤ 99) (h_v2 : (0 : Int) ≤ (v2).toInt ∧ (v2).toInt ≤ 11) : ∀ (n : Nat) (v3 : Int32) (v4 : Int32), (0 : Int) ≤ (v3).toInt ∧ (v3).toInt ≤ 1 → (0 : Int) ≤ (v4).toInt ∧ (v4).toInt ≤ 9 → 10 - (v4).toInt ≤ (n : Int) → zok (Mo_isKnownNew_h5 N s0 v1 v2 n v3 v4) (fun z => ((0 : Int) ≤ (z).toInt ∧ (z).toInt ≤ 1))
  | 0, v3, v4, h_v3, h_v4, hm => absurd hm (by omega)
  | n + 1, v3, v4, h_v3, h_v4, hm => by
    rw [Mo_isKnownNew_h5_s]
    exact t_Mo_isKnownNew_b5 N hN (Mo_isKnownNew_h5 N s0 v1 v2 n) ((n + 1 : Nat) : Int) s0 v1 v2 v3 v4  (fun v3 v4 h_v3 h_v4 q => t_Mo_isKnownNew_h5 N hN  s0 v1 v2   h_s0 h_v1 h_v2   n v3 v4 h_v3 h_v4 (by omega)) h_s0 h_v1 h_v2 h_v3 h_v4  hm
theorem t_Mo_isKnownNew_b0 (N : Nat) (hN : 50000000 ≤ N) (s0 : zSt) (v1 : Int32) (v2 : Int32) (h_s0 : I_Mo s0) (h_v1 : (1 : Int) ≤ (v1).toInt ∧ (v1).toInt ≤ 99) (h_v2 : (0 : Int) ≤ (v2).toInt ∧ (v2).toInt ≤ 11) : zok (Mo_isKnownNew_b0 N s0 v1 v2) (fun z => ((0 : Int) ≤ (z).toInt ∧ (z).toInt ≤ 1)) := by
  rw [Mo_isKnownNew_b0]
  have q1 := li_1
  have q2 := li_0
  exact t_Mo_isKnownNew_h5 N hN  _ _ _   h_s0 (show (1 : Int) ≤ (v1).toInt ∧ (v1).toInt ≤ 99 from ⟨by omega, by omega⟩) (show (0 : Int) ≤ (v2).toInt ∧ (v2).toInt ≤ 11 from ⟨by omega, by omega⟩)  N _ _ (show (0 : Int) ≤ ((1 : Int32)).toInt ∧ ((1 : Int32)).toInt ≤ 1 from ⟨by omega, by omega⟩) (show (0 : Int) ≤ ((0 : Int32)).toInt ∧ ((0 : Int32)).toInt ≤ 9 from ⟨by omega, by omega⟩) (show 10 - ((0 : Int32)).toInt ≤ (N : Int) from by omega)
theorem t_Mo_isKnownNew (N : Nat) (hN : 50000000 ≤ N) (s0 : zSt) (v1 : Int32) (v2 : Int32) (h_s0 : I_Mo s0) (h_v1 : (1 : Int) ≤ (v1).toInt ∧ (v1).toInt ≤ 99) (h_v2 : (0 : Int) ≤ (v2).toInt ∧ (v2).toInt ≤ 11) : zok (Mo_isKnownNew N s0 v1 v2) (fun z => ((0 : Int) ≤ (z).toInt ∧ (z).toInt ≤ 1)) :=
  t_Mo_isKnownNew_b0 N hN s0 v1 v2  h_s0 h_v1 h_v2 
theorem t_Mo_nearest_b73 (N : Nat) (hN : 50000000 ≤ N) (kh6 : Int32 → Int32 → Option (Int32)) (m6 : Int) (s0 : zSt) (v1 : Int32) (v2 : Int32) (v3 : Int32) (v4 : Int32) (hkh6 : ∀ (v3 : Int32) (v4 : Int32), (0 : Int) ≤ (v3).toInt ∧ (v3).toInt ≤ 12 → (0 : Int) ≤ (v4).toInt ∧ (v4).toInt ≤ 11 → 12 - (v4).toInt ≤ m6 - 1 → zok (kh6 v3 v4) (fun z => ((0 : Int) ≤ (z).toInt ∧ (z).toInt ≤ 12))) (h_s0 : I_Mo s0) (h_s0_29 : (1 : Int) ≤ (zI s0 29).toInt ∧ (zI s0 29).toInt ≤ 11) (h_v2 : (0 : Int) ≤ (v2).toInt ∧ (v2).toInt ≤ 11) (h_v3 : (0 : Int) ≤ (v3).toInt ∧ (v3).toInt ≤ 12) (h_v4 : (0 : Int) ≤ (v4).toInt ∧ (v4).toInt ≤ 10) (hm6 : 12 - (v4).toInt ≤ m6) : zok (Mo_nearest_b73 N kh6 s0 v1 v2 v3 v4) (fun z => ((0 : Int) ≤ (z).toInt ∧ (z).toInt ≤ 12)) := by
  rw [Mo_nearest_b73]
  have q1 := li_1
  have q2 := tadd v4 (1 : Int32) (by omega) (by omega)
  exact hkh6 _ _ (show (0 : Int) ≤ (v3).toInt ∧ (v3).toInt ≤ 12 from ⟨by omega, by omega⟩) (show (0 : Int) ≤ ((v4 + (1 : Int32))).toInt ∧ ((v4 + (1 : Int32))).toInt ≤ 11 from ⟨by omega, by omega⟩) (show 12 - ((v4 + (1 : Int32))).toInt ≤ m6 - 1 by omega)
theorem t_Mo_nearest_b72 (N : Nat) (hN : 50000000 ≤ N) (kh6 : Int32 → Int32 → Option (Int32)) (m6 : Int) (s0 : zSt) (v1 : Int32) (v2 : Int32) (v4 : Int32) (t0 : Int32) (hkh6 : ∀ (v3 : Int32) (v4 : Int32), (0 : Int) ≤ (v3).toInt ∧ (v3).toInt ≤ 12 → (0 : Int) ≤ (v4).toInt ∧ (v4).toInt ≤ 11 → 12 - (v4).toInt ≤ m6 - 1 → zok (kh6 v3 v4) (fun z => ((0 : Int) ≤ (z).toInt ∧ (z).toInt ≤ 12))) (h_s0 : I_Mo s0) (h_s0_29 : (1 : Int) ≤ (zI s0 29).toInt ∧ (zI s0 29).toInt ≤ 11) (h_v2 : (0 : Int) ≤ (v2).toInt ∧ (v2).toInt ≤ 11) (h_v4 : (0 : Int) ≤ (v4).toInt ∧ (v4).toInt ≤ 10) (h_t0 : (0 : Int) ≤ (t0).toInt ∧ (t0).toInt ≤ 6) (hm6 : 12 - (v4).toInt ≤ m6) : zok (Mo_nearest_b72 N kh6 s0 v1 v2 v4 t0) (fun z => ((0 : Int) ≤ (z).toInt ∧ (z).toInt ≤ 12)) := by
  rw [Mo_nearest_b72]
  have q1 : (0 : Int) ≤ ((zI s0 29)).toInt ∧ ((zI s0 29)).toInt ≤ 11 := (h_s0).1 29
  exact t_Mo_nearest_b73 N hN kh6 m6 _ _ _ _ _  hkh6 h_s0 (show (1 : Int) ≤ ((zI s0 29)).toInt ∧ ((zI s0 29)).toInt ≤ 11 from ⟨by omega, by omega⟩) (show (0 : Int) ≤ (v2).toInt ∧ (v2).toInt ≤ 11 from ⟨by omega, by omega⟩) (show (0 : Int) ≤ (t0).toInt ∧ (t0).toInt ≤ 12 from ⟨by omega, by omega⟩) (show (0 : Int) ≤ (v4).toInt ∧ (v4).toInt ≤ 10 from ⟨by omega, by omega⟩) (show 12 - (v4).toInt ≤ m6 from by omega)
theorem t_Mo_nearest_b58 (N : Nat) (hN : 50000000 ≤ N) (kh6 : Int32 → Int32 → Option (Int32)) (m6 : Int) (s0 : zSt) (v1 : Int32) (v2 : Int32) (v3 : Int32) (v4 : Int32) (t0 : Int32) (hkh6 : ∀ (v3 : Int32) (v4 : Int32), (0 : Int) ≤ (v3).toInt ∧ (v3).toInt ≤ 12 → (0 : Int) ≤ (v4).toInt ∧ (v4).toInt ≤ 11 → 12 - (v4).toInt ≤ m6 - 1 → zok (kh6 v3 v4) (fun z => ((0 : Int) ≤ (z).toInt ∧ (z).toInt ≤ 12))) (h_s0 : I_Mo s0) (h_s0_29 : (1 : Int) ≤ (zI s0 29).toInt ∧ (zI s0 29).toInt ≤ 11) (h_v2 : (0 : Int) ≤ (v2).toInt ∧ (v2).toInt ≤ 11) (h_v3 : (0 : Int) ≤ (v3).toInt ∧ (v3).toInt ≤ 12) (h_v4 : (0 : Int) ≤ (v4).toInt ∧ (v4).toInt ≤ 10) (h_t0 : (0 : Int) ≤ (t0).toInt ∧ (t0).toInt ≤ 6) (hm6 : 12 - (v4).toInt ≤ m6) : zok (Mo_nearest_b58 N kh6 s0 v1 v2 v3 v4 t0) (fun z => ((0 : Int) ≤ (z).toInt ∧ (z).toInt ≤ 12)) := by
  rw [Mo_nearest_b58]
  refine zok_ite (fun c1 => ?_) (fun c1 => ?_)
  · have q2 : (v3).toInt ≤ (t0).toInt := tle c1
    have q3 : (0 : Int) ≤ ((zI s0 29)).toInt ∧ ((zI s0 29)).toInt ≤ 11 := (h_s0).1 29
    exact t_Mo_nearest_b72 N hN kh6 m6 _ _ _ _ _  hkh6 h_s0 (show (1 : Int) ≤ ((zI s0 29)).toInt ∧ ((zI s0 29)).toInt ≤ 11 from ⟨by omega, by omega⟩) (show (0 : Int) ≤ (v2).toInt ∧ (v2).toInt ≤ 11 from ⟨by omega, by omega⟩) (show (0 : Int) ≤ (v4).toInt ∧ (v4).toInt ≤ 10 from ⟨by omega, by omega⟩) (show (0 : Int) ≤ (v3).toInt ∧ (v3).toInt ≤ 6 from ⟨by omega, by omega⟩) (show 12 - (v4).toInt ≤ m6 from by omega)
  · have q4 : (v3).toInt > (t0).toInt := tnle c1
    have q5 : (0 : Int) ≤ ((zI s0 29)).toInt ∧ ((zI s0 29)).toInt ≤ 11 := (h_s0).1 29
    exact t_Mo_nearest_b72 N hN kh6 m6 _ _ _ _ _  hkh6 h_s0 (show (1 : Int) ≤ ((zI s0 29)).toInt ∧ ((zI s0 29)).toInt ≤ 11 from ⟨by omega, by omega⟩) (show (0 : Int) ≤ (v2).toInt ∧ (v2).toInt ≤ 11 from ⟨by omega, by omega⟩) (show (0 : Int) ≤ (v4).toInt ∧ (v4).toInt ≤ 10 from ⟨by omega, by omega⟩) (show (0 : Int) ≤ (t0).toInt ∧ (t0).toInt ≤ 6 from ⟨by omega, by omega⟩) (show 12 - (v4).toInt ≤ m6 from by omega)
theorem t_Mo_nearest_b6 (N : Nat) (hN : 50000000 ≤ N) (kh6 : Int32 → Int32 → Option (Int32)) (m6 : Int) (s0 : zSt) (v1 : Int32) (v2 : Int32) (v3 : Int32) (v4 : Int32) (hkh6 : ∀ (v3 : Int32) (v4 : Int32), (0 : Int) ≤ (v3).toInt ∧ (v3).toInt ≤ 12 → (0 : Int) ≤ (v4).toInt ∧ (v4).toInt ≤ 11 → 12 - (v4).toInt ≤ m6 - 1 → zok (kh6 v3 v4) (fun z => ((0 : Int) ≤ (z).toInt ∧ (z).toInt ≤ 12))) (h_s0 : I_Mo s0) (h_v2 : (0 : Int) ≤ (v2).toInt ∧ (v2).toInt ≤ 11) (h_v3 : (0 : Int) ≤ (v3).toInt ∧ (v3).toInt ≤ 12) (h_v4 : (0 : Int) ≤ (v4).toInt ∧ (v4).toInt ≤ 11) (hm6 : 12 - (v4).toInt ≤ m6) : zok (Mo_nearest_b6 N kh6 s0 v1 v2 v3 v4) (fun z => ((0 : Int) ≤ (z).toInt ∧ (z).toInt ≤ 12)) := by
  rw [Mo_nearest_b6]
  have q2 : (0 : Int) ≤ ((zI s0 29)).toInt ∧ ((zI s0 29)).toInt ≤ 11 := (h_s0).1 29
  refine zok_ite (fun c1 => ?_) (fun c1 => ?_)
  · have q3 : ((zI s0 29)).toInt ≤ (v4).toInt := tle c1
    exact zok_some (show (0 : Int) ≤ (v3).toInt ∧ (v3).toInt ≤ 12 from ⟨by omega, by omega⟩)
  · have q4 : ((zI s0 29)).toInt > (v4).toInt := tnle c1
    refine zok_ite (fun c5 => ?_) (fun c5 => ?_)
    · exact t_Mo_nearest_b73 N hN kh6 m6 _ _ _ _ _  hkh6 h_s0 (show (1 : Int) ≤ ((zI s0 29)).toInt ∧ ((zI s0 29)).toInt ≤ 11 from ⟨by omega, by omega⟩) (show (0 : Int) ≤ (v2).toInt ∧ (v2).toInt ≤ 11 from ⟨by omega, by omega⟩) (show (0 : Int) ≤ (v3).toInt ∧ (v3).toInt ≤ 12 from ⟨by omega, by omega⟩) (show (0 : Int) ≤ (v4).toInt ∧ (v4).toInt ≤ 10 from ⟨by omega, by omega⟩) (show 12 - (v4).toInt ≤ m6 from by omega)
    · refine zok_ck (show vp_in v4 11 from vin (by omega) (by omega)) ?_
      refine zok_bind (t_Mo_modulo N hN (((zA s0 16) (Int32.toNatClampNeg v4)) - v2) ) (fun z4 hz4 => ?_)
      have h_z4 := hz4
      have q7 := li_6
      refine zok_ite (fun c6 => ?_) (fun c6 => ?_)
      · have q8 : (z4).toInt ≤ ((6 : Int32)).toInt := tle c6
        exact t_Mo_nearest_b58 N hN kh6 m6 _ _ _ _ _ _  hkh6 h_s0 (show (1 : Int) ≤ ((zI s0 29)).toInt ∧ ((zI s0 29)).toInt ≤ 11 from ⟨by omega, by omega⟩) (show (0 : Int) ≤ (v2).toInt ∧ (v2).toInt ≤ 11 from ⟨by omega, by omega⟩) (show (0 : Int) ≤ (v3).toInt ∧ (v3).toInt ≤ 12 from ⟨by omega, by omega⟩) (show (0 : Int) ≤ (v4).toInt ∧ (v4).toInt ≤ 10 from ⟨by omega, by omega⟩) (show (0 : Int) ≤ (z4).toInt ∧ (z4).toInt ≤ 6 from ⟨by omega, by omega⟩) (show 12 - (v4).toInt ≤ m6 from by omega)
      · have q9 : (z4).toInt > ((6 : Int32)).toInt := tnle c6
        have q10 := li_12
        have q11 := tsub (12 : Int32) z4 (by omega) (by omega)
        exact t_Mo_nearest_b58 N hN kh6 m6 _ _ _ _ _ _  hkh6 h_s0 (show (1 : Int) ≤ ((zI s0 29)).toInt ∧ ((zI s0 29)).toInt ≤ 11 from ⟨by omega, by omega⟩) (show (0 : Int) ≤ (v2).toInt ∧ (v2).toInt ≤ 11 from ⟨by omega, by omega⟩) (show (0 : Int) ≤ (v3).toInt ∧ (v3).toInt ≤ 12 from ⟨by omega, by omega⟩) (show (0 : Int) ≤ (v4).toInt ∧ (v4).toInt ≤ 10 from ⟨by omega, by omega⟩) (show (0 : Int) ≤ (((12 : Int32) - z4)).toInt ∧ (((12 : Int32) - z4)).toInt ≤ 6 from ⟨by omega, by omega⟩) (show 12 - (v4).toInt ≤ m6 from by omega)
theorem t_Mo_nearest_h6 (N : Nat) (hN : 50000000 ≤ N) (s0 : zSt) (v1 : Int32) (v2 : Int32) (h_s0 : I_Mo s0) (h_v2 : (0 : Int) ≤ (v2).toInt ∧ (v2).toInt ≤ 11) : ∀ (n : Nat) (v3 : Int32) (v4 : Int32), (0 : Int) ≤ (v3).toInt ∧ (v3).toInt ≤ 12 → (0 : Int) ≤ (v4).toInt ∧ (v4).toInt ≤ 11 → 12 - (v4).toInt ≤ (n : Int) → zok (Mo_nearest_h6 N s0 v1 v2 n v3 v4) (fun z => ((0 : Int) ≤ (z).toInt ∧ (z).toInt ≤ 12))
  | 0, v3, v4, h_v3, h_v4, hm => absurd hm (by omega)
  | n + 1, v3, v4, h_v3, h_v4, hm => by
    rw [Mo_nearest_h6_s]
    exact t_Mo_nearest_b6 N hN (Mo_nearest_h6 N s0 v1 v2 n) ((n + 1 : Nat) : Int) s0 v1 v2 v3 v4  (fun v3 v4 h_v3 h_v4 q => t_Mo_nearest_h6 N hN  s0 v1 v2   h_s0 h_v2   n v3 v4 h_v3 h_v4 (by omega)) h_s0 h_v2 h_v3 h_v4  hm
theorem t_Mo_nearest_b0 (N : Nat) (hN : 50000000 ≤ N) (s0 : zSt) (v1 : Int32) (v2 : Int32) (h_s0 : I_Mo s0) (h_v2 : (0 : Int) ≤ (v2).toInt ∧ (v2).toInt ≤ 11) : zok (Mo_nearest_b0 N s0 v1 v2) (fun z => ((0 : Int) ≤ (z).toInt ∧ (z).toInt ≤ 12)) := by
  rw [Mo_nearest_b0]
  have q1 := li_12
  have q2 := li_0
  exact t_Mo_nearest_h6 N hN  _ _ _   h_s0 (show (0 : Int) ≤ (v2).toInt ∧ (v2).toInt ≤ 11 from ⟨by omega, by omega⟩)  N _ _ (show (0 : Int) ≤ ((12 : Int32)).toInt ∧ ((12 : Int32)).toInt ≤ 12 from ⟨by omega, by omega⟩) (show (0 : Int) ≤ ((0 : Int32)).toInt ∧ ((0 : Int32)).toInt ≤ 11 from ⟨by omega, by omega⟩) (show 12 - ((0 : Int32)).toInt ≤ (N : Int) from by omega)
theorem t_Mo_nearest (N : Nat) (hN : 50000000 ≤ N) (s0 : zSt) (v1 : Int32) (v2 : Int32) (h_s0 : I_Mo s0) (h_v2 : (0 : Int) ≤ (v2).toInt ∧ (v2).toInt ≤ 11) : zok (Mo_nearest N s0 v1 v2) (fun z => ((0 : Int) ≤ (z).toInt ∧ (z).toInt ≤ 12)) :=
  t_Mo_nearest_b0 N hN s0 v1 v2  h_s0 h_v2 
theorem t_Mo_fresh_b126 (N : Nat) (hN : 50000000 ≤ N) (kh81 : Int32 → Int32 → Int32 → Option (Int32)) (m81 : Int) (s0 : zSt) (v1 : Int32) (v3 : Int32) (v4 : Int32) (v5 : Int32) (v6 : Int32) (hkh81 : ∀ (v4 : Int32) (v5 : Int32) (v6 : Int32), (-1 : Int) ≤ (v4).toInt ∧ (v4).toInt ≤ 11 → (-1 : Int) ≤ (v5).toInt ∧ (v5).toInt ≤ 12 → (0 : Int) ≤ (v6).toInt ∧ (v6).toInt ≤ 12 → 13 - (v6).toInt ≤ m81 - 1 → zok (kh81 v4 v5 v6) (fun z => ((-2 : Int) ≤ (z).toInt ∧ (z).toInt ≤ 11))) (h_s0 : I_Mo s0) (h_v1 : (1 : Int) ≤ (v1).toInt ∧ (v1).toInt ≤ 99) (h_v4 : (-1 : Int) ≤ (v4).toInt ∧ (v4).toInt ≤ 11) (h_v5 : (-1 : Int) ≤ (v5).toInt ∧ (v5).toInt ≤ 12) (h_v6 : (0 : Int) ≤ (v6).toInt ∧ (v6).toInt ≤ 11) (hm81 : 13 - (v6).toInt ≤ m81) : zok (Mo_fresh_b126 N kh81 s0 v1 v3 v4 v5 v6) (fun z => ((-2 : Int) ≤ (z).toInt ∧ (z).toInt ≤ 11)) := by
  rw [Mo_fresh_b126]
  have q1 := li_1
  have q2 := tadd v6 (1 : Int32) (by omega) (by omega)
  exact hkh81 _ _ _ (show (-1 : Int) ≤ (v4).toInt ∧ (v4).toInt ≤ 11 from ⟨by omega, by omega⟩) (show (-1 : Int) ≤ (v5).toInt ∧ (v5).toInt ≤ 12 from ⟨by omega, by omega⟩) (show (0 : Int) ≤ ((v6 + (1 : Int32))).toInt ∧ ((v6 + (1 : Int32))).toInt ≤ 12 from ⟨by omega, by omega⟩) (show 13 - ((v6 + (1 : Int32))).toInt ≤ m81 - 1 by omega)
theorem t_Mo_fresh_b81 (N : Nat) (hN : 50000000 ≤ N) (kh81 : Int32 → Int32 → Int32 → Option (Int32)) (m81 : Int) (s0 : zSt) (v1 : Int32) (v3 : Int32) (v4 : Int32) (v5 : Int32) (v6 : Int32) (hkh81 : ∀ (v4 : Int32) (v5 : Int32) (v6 : Int32), (-1 : Int) ≤ (v4).toInt ∧ (v4).toInt ≤ 11 → (-1 : Int) ≤ (v5).toInt ∧ (v5).toInt ≤ 12 → (0 : Int) ≤ (v6).toInt ∧ (v6).toInt ≤ 12 → 13 - (v6).toInt ≤ m81 - 1 → zok (kh81 v4 v5 v6) (fun z => ((-2 : Int) ≤ (z).toInt ∧ (z).toInt ≤ 11))) (h_s0 : I_Mo s0) (h_v1 : (1 : Int) ≤ (v1).toInt ∧ (v1).toInt ≤ 99) (h_v4 : (-1 : Int) ≤ (v4).toInt ∧ (v4).toInt ≤ 11) (h_v5 : (-1 : Int) ≤ (v5).toInt ∧ (v5).toInt ≤ 12) (h_v6 : (0 : Int) ≤ (v6).toInt ∧ (v6).toInt ≤ 12) (hm81 : 13 - (v6).toInt ≤ m81) : zok (Mo_fresh_b81 N kh81 s0 v1 v3 v4 v5 v6) (fun z => ((-2 : Int) ≤ (z).toInt ∧ (z).toInt ≤ 11)) := by
  rw [Mo_fresh_b81]
  have q2 := li_12
  refine zok_ite (fun c1 => ?_) (fun c1 => ?_)
  · have q3 : ((12 : Int32)).toInt ≤ (v6).toInt := tle c1
    exact zok_some (show (-2 : Int) ≤ (v4).toInt ∧ (v4).toInt ≤ 11 from ⟨by omega, by omega⟩)
  · have q4 : ((12 : Int32)).toInt > (v6).toInt := tnle c1
    refine zok_bind (t_Mo_isKnownNew N hN s0 v1 v6 h_s0 (show (1 : Int) ≤ (v1).toInt ∧ (v1).toInt ≤ 99 from ⟨by omega, by omega⟩) (show (0 : Int) ≤ (v6).toInt ∧ (v6).toInt ≤ 11 from ⟨by omega, by omega⟩)) (fun z2 hz2 => ?_)
    have h_z2 := hz2
    have q6 := li_0
    refine zok_ite (fun c5 => ?_) (fun c5 => ?_)
    · have q7 : (z2).toInt = ((0 : Int32)).toInt := teq c5
      exact t_Mo_fresh_b126 N hN kh81 m81 _ _ _ _ _ _  hkh81 h_s0 (show (1 : Int) ≤ (v1).toInt ∧ (v1).toInt ≤ 99 from ⟨by omega, by omega⟩) (show (-1 : Int) ≤ (v4).toInt ∧ (v4).toInt ≤ 11 from ⟨by omega, by omega⟩) (show (-1 : Int) ≤ (v5).toInt ∧ (v5).toInt ≤ 12 from ⟨by omega, by omega⟩) (show (0 : Int) ≤ (v6).toInt ∧ (v6).toInt ≤ 11 from ⟨by omega, by omega⟩) (show 13 - (v6).toInt ≤ m81 from by omega)
    · have q8 : (z2).toInt ≠ ((0 : Int32)).toInt := tneq c5
      refine zok_bind (t_Mo_nearest N hN s0 v3 v6 h_s0 (show (0 : Int) ≤ (v6).toInt ∧ (v6).toInt ≤ 11 from ⟨by omega, by omega⟩)) (fun z5 hz5 => ?_)
      have h_z5 := hz5
      refine zok_ite (fun c9 => ?_) (fun c9 => ?_)
      · have q10 : (v5).toInt < (z5).toInt := tlt c9
        refine zok_bind (t_Mo_nearest N hN s0 v3 v6 h_s0 (show (0 : Int) ≤ (v6).toInt ∧ (v6).toInt ≤ 11 from ⟨by omega, by omega⟩)) (fun z8 hz8 => ?_)
        have h_z8 := hz8
        exact t_Mo_fresh_b126 N hN kh81 m81 _ _ _ _ _ _  hkh81 h_s0 (show (1 : Int) ≤ (v1).toInt ∧ (v1).toInt ≤ 99 from ⟨by omega, by omega⟩) (show (-1 : Int) ≤ (v6).toInt ∧ (v6).toInt ≤ 11 from ⟨by omega, by omega⟩) (show (-1 : Int) ≤ (z8).toInt ∧ (z8).toInt ≤ 12 from ⟨by omega, by omega⟩) (show (0 : Int) ≤ (v6).toInt ∧ (v6).toInt ≤ 11 from ⟨by omega, by omega⟩) (show 13 - (v6).toInt ≤ m81 from by omega)
      · have q11 : (v5).toInt ≥ (z5).toInt := tnlt c9
        exact t_Mo_fresh_b126 N hN kh81 m81 _ _ _ _ _ _  hkh81 h_s0 (show (1 : Int) ≤ (v1).toInt ∧ (v1).toInt ≤ 99 from ⟨by omega, by omega⟩) (show (-1 : Int) ≤ (v4).toInt ∧ (v4).toInt ≤ 11 from ⟨by omega, by omega⟩) (show (-1 : Int) ≤ (v5).toInt ∧ (v5).toInt ≤ 12 from ⟨by omega, by omega⟩) (show (0 : Int) ≤ (v6).toInt ∧ (v6).toInt ≤ 11 from ⟨by omega, by omega⟩) (show 13 - (v6).toInt ≤ m81 from by omega)
theorem t_Mo_fresh_h81 (N : Nat) (hN : 50000000 ≤ N) (s0 : zSt) (v1 : Int32) (v3 : Int32) (h_s0 : I_Mo s0) (h_v1 : (1 : Int) ≤ (v1).toInt ∧ (v1).toInt ≤ 99) : ∀ (n : Nat) (v4 : Int32) (v5 : Int32) (v6 : Int32), (-1 : Int) ≤ (v4).toInt ∧ (v4).toInt ≤ 11 → (-1 : Int) ≤ (v5).toInt ∧ (v5).toInt ≤ 12 → (0 : Int) ≤ (v6).toInt ∧ (v6).toInt ≤ 12 → 13 - (v6).toInt ≤ (n : Int) → zok (Mo_fresh_h81 N s0 v1 v3 n v4 v5 v6) (fun z => ((-2 : Int) ≤ (z).toInt ∧ (z).toInt ≤ 11))
  | 0, v4, v5, v6, h_v4, h_v5, h_v6, hm => absurd hm (by omega)
  | n + 1, v4, v5, v6, h_v4, h_v5, h_v6, hm => by
    rw [Mo_fresh_h81_s]
    exact t_Mo_fresh_b81 N hN (Mo_fresh_h81 N s0 v1 v3 n) ((n + 1 : Nat) : Int) s0 v1 v3 v4 v5 v6  (fun v4 v5 v6 h_v4 h_v5 h_v6 q => t_Mo_fresh_h81 N hN  s0 v1 v3   h_s0 h_v1   n v4 v5 v6 h_v4 h_v5 h_v6 (by omega)) h_s0 h_v1 h_v4 h_v5 h_v6  hm
theorem t_Mo_fresh_b64 (N : Nat) (hN : 50000000 ≤ N) (kh33 : Int32 → Int32 → Option (Int32)) (m33 : Int) (s0 : zSt) (v1 : Int32) (v2 : Int32) (v4 : Int32) (t0 : Int32) (t1 : Int32) (hkh33 : ∀ (v3 : Int32) (v4 : Int32), (0 : Int) ≤ (v4).toInt ∧ (v4).toInt ≤ 11 → 12 - (v4).toInt ≤ m33 - 1 → zok (kh33 v3 v4) (fun z => ((-2 : Int) ≤ (z).toInt ∧ (z).toInt ≤ 11))) (h_s0 : I_Mo s0) (h_s0_29 : (1 : Int) ≤ (zI s0 29).toInt ∧ (zI s0 29).toInt ≤ 11) (h_v1 : (1 : Int) ≤ (v1).toInt ∧ (v1).toInt ≤ 99) (h_v2 : (0 : Int) ≤ (v2).toInt ∧ (v2).toInt ≤ 2147483647) (h_v4 : (0 : Int) ≤ (v4).toInt ∧ (v4).toInt ≤ 10) (hm33 : 12 - (v4).toInt ≤ m33) : zok (Mo_fresh_b64 N kh33 s0 v1 v2 v4 t0 t1) (fun z => ((-2 : Int) ≤ (z).toInt ∧ (z).toInt ≤ 11)) := by
  rw [Mo_fresh_b64]
  have q1 := li_1
  have q2 := tadd v4 (1 : Int32) (by omega) (by omega)
  exact hkh33 _ _ (show (0 : Int) ≤ ((v4 + (1 : Int32))).toInt ∧ ((v4 + (1 : Int32))).toInt ≤ 11 from ⟨by omega, by omega⟩) (show 12 - ((v4 + (1 : Int32))).toInt ≤ m33 - 1 by omega)
theorem t_Mo_fresh_b33 (N : Nat) (hN : 50000000 ≤ N) (kh33 : Int32 → Int32 → Option (Int32)) (m33 : Int) (s0 : zSt) (v1 : Int32) (v2 : Int32) (v3 : Int32) (v4 : Int32) (hkh33 : ∀ (v3 : Int32) (v4 : Int32), (0 : Int) ≤ (v4).toInt ∧ (v4).toInt ≤ 11 → 12 - (v4).toInt ≤ m33 - 1 → zok (kh33 v3 v4) (fun z => ((-2 : Int) ≤ (z).toInt ∧ (z).toInt ≤ 11))) (h_s0 : I_Mo s0) (h_v1 : (1 : Int) ≤ (v1).toInt ∧ (v1).toInt ≤ 99) (h_v2 : (0 : Int) ≤ (v2).toInt ∧ (v2).toInt ≤ 2147483647) (h_v4 : (0 : Int) ≤ (v4).toInt ∧ (v4).toInt ≤ 11) (hm33 : 12 - (v4).toInt ≤ m33) : zok (Mo_fresh_b33 N kh33 s0 v1 v2 v3 v4) (fun z => ((-2 : Int) ≤ (z).toInt ∧ (z).toInt ≤ 11)) := by
  rw [Mo_fresh_b33]
  have q2 : (0 : Int) ≤ ((zI s0 29)).toInt ∧ ((zI s0 29)).toInt ≤ 11 := (h_s0).1 29
  refine zok_ite (fun c1 => ?_) (fun c1 => ?_)
  · have q3 : ((zI s0 29)).toInt ≤ (v4).toInt := tle c1
    have q4 := li_m1
    have q5 := li_0
    exact t_Mo_fresh_h81 N hN  _ _ _   h_s0 (show (1 : Int) ≤ (v1).toInt ∧ (v1).toInt ≤ 99 from ⟨by omega, by omega⟩)  N _ _ _ (show (-1 : Int) ≤ (((-1) : Int32)).toInt ∧ (((-1) : Int32)).toInt ≤ 11 from ⟨by omega, by omega⟩) (show (-1 : Int) ≤ (((-1) : Int32)).toInt ∧ (((-1) : Int32)).toInt ≤ 12 from ⟨by omega, by omega⟩) (show (0 : Int) ≤ ((0 : Int32)).toInt ∧ ((0 : Int32)).toInt ≤ 12 from ⟨by omega, by omega⟩) (show 13 - ((0 : Int32)).toInt ≤ (N : Int) from by omega)
  · have q6 : ((zI s0 29)).toInt > (v4).toInt := tnle c1
    refine zok_ite (fun c7 => ?_) (fun c7 => ?_)
    · refine zok_ck (show vp_in v4 11 from vin (by omega) (by omega)) ?_
      exact t_Mo_fresh_b64 N hN kh33 m33 _ _ _ _ _ _  hkh33 h_s0 (show (1 : Int) ≤ ((zI s0 29)).toInt ∧ ((zI s0 29)).toInt ≤ 11 from ⟨by omega, by omega⟩) (show (1 : Int) ≤ (v1).toInt ∧ (v1).toInt ≤ 99 from ⟨by omega, by omega⟩) (show (0 : Int) ≤ (v2).toInt ∧ (v2).toInt ≤ 2147483647 from ⟨by omega, by omega⟩) (show (0 : Int) ≤ (v4).toInt ∧ (v4).toInt ≤ 10 from ⟨by omega, by omega⟩) (show 12 - (v4).toInt ≤ m33 from by omega)
    · exact t_Mo_fresh_b64 N hN kh33 m33 _ _ _ _ _ _  hkh33 h_s0 (show (1 : Int) ≤ ((zI s0 29)).toInt ∧ ((zI s0 29)).toInt ≤ 11 from ⟨by omega, by omega⟩) (show (1 : Int) ≤ (v1).toInt ∧ (v1).toInt ≤ 99 from ⟨by omega, by omega⟩) (show (0 : Int) ≤ (v2).toInt ∧ (v2).toInt ≤ 2147483647 from ⟨by omega, by omega⟩) (show (0 : Int) ≤ (v4).toInt ∧ (v4).toInt ≤ 10 from ⟨by omega, by omega⟩) (show 12 - (v4).toInt ≤ m33 from by omega)
theorem t_Mo_fresh_h33 (N : Nat) (hN : 50000000 ≤ N) (s0 : zSt) (v1 : Int32) (v2 : Int32) (h_s0 : I_Mo s0) (h_v1 : (1 : Int) ≤ (v1).toInt ∧ (v1).toInt ≤ 99) (h_v2 : (0 : Int) ≤ (v2).toInt ∧ (v2).toInt ≤ 2147483647) : ∀ (n : Nat) (v3 : Int32) (v4 : Int32), (0 : Int) ≤ (v4).toInt ∧ (v4).toInt ≤ 11 → 12 - (v4).toInt ≤ (n : Int) → zok (Mo_fresh_h33 N s0 v1 v2 n v3 v4) (fun z => ((-2 : Int) ≤ (z).toInt ∧ (z).toInt ≤ 11))
  | 0, v3, v4, h_v4, hm => absurd hm (by omega)
  | n + 1, v3, v4, h_v4, hm => by
    rw [Mo_fresh_h33_s]
    exact t_Mo_fresh_b33 N hN (Mo_fresh_h33 N s0 v1 v2 n) ((n + 1 : Nat) : Int) s0 v1 v2 v3 v4  (fun v3 v4 h_v4 q => t_Mo_fresh_h33 N hN  s0 v1 v2   h_s0 h_v1 h_v2   n v3 v4 h_v4 (by omega)) h_s0 h_v1 h_v2 h_v4  hm
theorem t_Mo_fresh_b0 (N : Nat) (hN : 50000000 ≤ N) (s0 : zSt) (v1 : Int32) (v2 : Int32) (h_s0 : I_Mo s0) : zok (Mo_fresh_b0 N s0 v1 v2) (fun z => ((-2 : Int) ≤ (z).toInt ∧ (z).toInt ≤ 11)) := by
  rw [Mo_fresh_b0]
  have q1 := li_1
  have q2 := li_99
  rcases u_Mo_isIn N v1 (1 : Int32) (99 : Int32)  with w3 | ⟨w3, w3_0, w3_1⟩ <;> rw [w3, zbs]
  · refine zok_t (by decide) ?_
    have q7 := li_m2
    exact zok_some (show (-2 : Int) ≤ (((-2) : Int32)).toInt ∧ (((-2) : Int32)).toInt ≤ 11 from ⟨by omega, by omega⟩)
  · have q4 := tr v1
    have q5 : ((1 : Int32)).toInt ≤ (v1).toInt := w3_0
    have q6 : (v1).toInt ≤ ((99 : Int32)).toInt := w3_1
    refine zok_f (by decide) ?_
    have q9 := tr v2
    have q10 := li_0
    refine zok_ite (fun c8 => ?_) (fun c8 => ?_)
    · have q11 : (v2).toInt < ((0 : Int32)).toInt := tlt c8
      have q12 := li_m2
      exact zok_some (show (-2 : Int) ≤ (((-2) : Int32)).toInt ∧ (((-2) : Int32)).toInt ≤ 11 from ⟨by omega, by omega⟩)
    · have q13 : (v2).toInt ≥ ((0 : Int32)).toInt := tnlt c8
      refine zok_bind (t_Mo_beastSet N hN s0 h_s0) (fun z5 hz5 => ?_)
      have h_z5 := hz5
      refine zok_ite (fun c14 => ?_) (fun c14 => ?_)
      · exact t_Mo_fresh_h33 N hN  _ _ _   h_s0 (show (1 : Int) ≤ (v1).toInt ∧ (v1).toInt ≤ 99 from ⟨by omega, by omega⟩) (show (0 : Int) ≤ (v2).toInt ∧ (v2).toInt ≤ 2147483647 from ⟨by omega, by omega⟩)  N _ _ (show (0 : Int) ≤ ((0 : Int32)).toInt ∧ ((0 : Int32)).toInt ≤ 11 from ⟨by omega, by omega⟩) (show 12 - ((0 : Int32)).toInt ≤ (N : Int) from by omega)
      · have q15 := li_m2
        exact zok_some (show (-2 : Int) ≤ (((-2) : Int32)).toInt ∧ (((-2) : Int32)).toInt ≤ 11 from ⟨by omega, by omega⟩)
theorem t_Mo_fresh (N : Nat) (hN : 50000000 ≤ N) (s0 : zSt) (v1 : Int32) (v2 : Int32) (h_s0 : I_Mo s0) : zok (Mo_fresh N s0 v1 v2) (fun z => ((-2 : Int) ≤ (z).toInt ∧ (z).toInt ≤ 11)) :=
  t_Mo_fresh_b0 N hN s0 v1 v2  h_s0 
theorem t_Mo_isBox_b0 (N : Nat) (hN : 50000000 ≤ N) (v0 : Int32) : zok (Mo_isBox_b0 N v0) (fun z => ((0 : Int) ≤ (z).toInt ∧ (z).toInt ≤ 1)) := by
  rw [Mo_isBox_b0]
  have q2 := tr v0
  have q3 := li_0
  refine zok_ite (fun c1 => ?_) (fun c1 => ?_)
  · have q4 : (v0).toInt < ((0 : Int32)).toInt := tlt c1
    exact zok_some (show (0 : Int) ≤ ((0 : Int32)).toInt ∧ ((0 : Int32)).toInt ≤ 1 from ⟨by omega, by omega⟩)
  · have q5 : (v0).toInt ≥ ((0 : Int32)).toInt := tnlt c1
    have q7 := li_3
    refine zok_ite (fun c6 => ?_) (fun c6 => ?_)
    · have q8 : ((3 : Int32)).toInt ≤ (v0).toInt := tle c6
      exact zok_some (show (0 : Int) ≤ ((0 : Int32)).toInt ∧ ((0 : Int32)).toInt ≤ 1 from ⟨by omega, by omega⟩)
    · have q9 : ((3 : Int32)).toInt > (v0).toInt := tnle c6
      have q10 := li_1
      exact zok_some (show (0 : Int) ≤ ((1 : Int32)).toInt ∧ ((1 : Int32)).toInt ≤ 1 from ⟨by omega, by omega⟩)
theorem t_Mo_isBox (N : Nat) (hN : 50000000 ≤ N) (v0 : Int32) : zok (Mo_isBox N v0) (fun z => ((0 : Int) ≤ (z).toInt ∧ (z).toInt ≤ 1)) :=
  t_Mo_isBox_b0 N hN v0   
theorem t_Mo_image_b91 (N : Nat) (hN : 50000000 ≤ N) (kh91 : zSt → Int32 → Option (Int32 × zSt)) (m91 : Int) (s0 : zSt) (v1 : Int32) (v2 : Int32) (gs0 : zSt) (hkh91 : ∀ (s0 : zSt) (v2 : Int32), I_Mo s0 → (0 : Int) ≤ (v2).toInt ∧ (v2).toInt ≤ 11 → Fr [] [62, 63] s0 gs0 → 12 - (v2).toInt ≤ m91 - 1 → zok (kh91 s0 v2) (fun z => True ∧ I_Mo z.2 ∧ Fr [] [62, 63] z.2 gs0)) (h_s0 : I_Mo s0) (h_v1 : (0 : Int) ≤ (v1).toInt ∧ (v1).toInt ≤ 2) (h_v2 : (0 : Int) ≤ (v2).toInt ∧ (v2).toInt ≤ 11) (g_s0 : Fr [] [62, 63] s0 gs0) (hm91 : 12 - (v2).toInt ≤ m91) : zok (Mo_image_b91 N kh91 s0 v1 v2) (fun z => True ∧ I_Mo z.2 ∧ Fr [] [62, 63] z.2 gs0) := by
  rw [Mo_image_b91]
  have q2 := li_11
  refine zok_ite (fun c1 => ?_) (fun c1 => ?_)
  · have q3 : ((11 : Int32)).toInt ≤ (v2).toInt := tle c1
    exact zok_some ⟨trivial, h_s0, g_s0⟩
  · have q4 : ((11 : Int32)).toInt > (v2).toInt := tnle c1
    refine zok_ck (show vp_in v2 11 from vin (by omega) (by omega)) ?_
    have q5 : (((16 : Int32) * v1)).toInt = (v1).toInt * 16 := tmull v1 (16 : Int32) 16 (by decide) (by omega) (by omega)
    have q6 := li_5
    have q7 := tadd ((16 : Int32) * v1) (5 : Int32) (by omega) (by omega)
    have q8 := tadd (((16 : Int32) * v1) + (5 : Int32)) v2 (by omega) (by omega)
    refine zok_ck (show vp_in ((((16 : Int32) * v1) + (5 : Int32)) + v2) 48 from vin (by omega) (by omega)) ?_
    have q9 := li_1
    have q10 := tadd v2 (1 : Int32) (by omega) (by omega)
    exact hkh91 _ _ (IS.sA 63 (upd (zA s0 63) (Int32.toNatClampNeg ((((16 : Int32) * v1) + (5 : Int32)) + v2)) ((zA s0 33) (Int32.toNatClampNeg v2))) h_s0 (fun _ => tr _)) (show (0 : Int) ≤ ((v2 + (1 : Int32))).toInt ∧ ((v2 + (1 : Int32))).toInt ≤ 11 from ⟨by omega, by omega⟩) (Fr.sA g_s0 rfl) (show 12 - ((v2 + (1 : Int32))).toInt ≤ m91 - 1 by omega)
theorem t_Mo_image_h91 (N : Nat) (hN : 50000000 ≤ N) (v1 : Int32) (gs0 : zSt) (h_v1 : (0 : Int) ≤ (v1).toInt ∧ (v1).toInt ≤ 2) : ∀ (n : Nat) (s0 : zSt) (v2 : Int32), I_Mo s0 → (0 : Int) ≤ (v2).toInt ∧ (v2).toInt ≤ 11 → Fr [] [62, 63] s0 gs0 → 12 - (v2).toInt ≤ (n : Int) → zok (Mo_image_h91 N v1 n s0 v2) (fun z => True ∧ I_Mo z.2 ∧ Fr [] [62, 63] z.2 gs0)
  | 0, s0, v2, h_s0, h_v2, g_s0, hm => absurd hm (by omega)
  | n + 1, s0, v2, h_s0, h_v2, g_s0, hm => by
    rw [Mo_image_h91_s]
    exact t_Mo_image_b91 N hN (Mo_image_h91 N v1 n) ((n + 1 : Nat) : Int) s0 v1 v2 gs0 (fun s0 v2 h_s0 h_v2 g_s0 q => t_Mo_image_h91 N hN  v1 gs0  h_v1   n s0 v2 h_s0 h_v2 g_s0 (by omega)) h_s0 h_v1 h_v2 g_s0 hm
theorem t_Mo_image_b89 (N : Nat) (hN : 50000000 ≤ N) (s0 : zSt) (v1 : Int32) (gs0 : zSt) (h_s0 : I_Mo s0) (h_v1 : (0 : Int) ≤ (v1).toInt ∧ (v1).toInt ≤ 2) (g_s0 : Fr [] [62, 63] s0 gs0) : zok (Mo_image_b89 N s0 v1) (fun z => True ∧ I_Mo z.2 ∧ Fr [] [62, 63] z.2 gs0) := by
  rw [Mo_image_b89]
  have q1 := li_0
  exact t_Mo_image_h91 N hN  _ gs0  (show (0 : Int) ≤ (v1).toInt ∧ (v1).toInt ≤ 2 from ⟨by omega, by omega⟩)  N _ _ h_s0 (show (0 : Int) ≤ ((0 : Int32)).toInt ∧ ((0 : Int32)).toInt ≤ 11 from ⟨by omega, by omega⟩) g_s0 (show 12 - ((0 : Int32)).toInt ≤ (N : Int) from by omega)
theorem t_Mo_image_b74 (N : Nat) (hN : 50000000 ≤ N) (s0 : zSt) (v1 : Int32) (gs0 : zSt) (h_s0 : I_Mo s0) (h_v1 : (0 : Int) ≤ (v1).toInt ∧ (v1).toInt ≤ 2) (g_s0 : Fr [] [62, 63] s0 gs0) : zok (Mo_image_b74 N s0 v1) (fun z => True ∧ I_Mo z.2 ∧ Fr [] [62, 63] z.2 gs0) := by
  rw [Mo_image_b74]
  have q1 : (((16 : Int32) * v1)).toInt = (v1).toInt * 16 := tmull v1 (16 : Int32) 16 (by decide) (by omega) (by omega)
  have q2 := li_4
  have q3 := tadd ((16 : Int32) * v1) (4 : Int32) (by omega) (by omega)
  refine zok_ck (show vp_in (((16 : Int32) * v1) + (4 : Int32)) 48 from vin (by omega) (by omega)) ?_
  exact t_Mo_image_b89 N hN  _ _ gs0  (IS.sA 63 (upd (zA s0 63) (Int32.toNatClampNeg (((16 : Int32) * v1) + (4 : Int32))) (zI s0 38)) h_s0 (fun _ => tr _)) (show (0 : Int) ≤ (v1).toInt ∧ (v1).toInt ≤ 2 from ⟨by omega, by omega⟩) (Fr.sA g_s0 rfl) 
theorem t_Mo_image_b59 (N : Nat) (hN : 50000000 ≤ N) (s0 : zSt) (v1 : Int32) (gs0 : zSt) (h_s0 : I_Mo s0) (h_v1 : (0 : Int) ≤ (v1).toInt ∧ (v1).toInt ≤ 2) (g_s0 : Fr [] [62, 63] s0 gs0) : zok (Mo_image_b59 N s0 v1) (fun z => True ∧ I_Mo z.2 ∧ Fr [] [62, 63] z.2 gs0) := by
  rw [Mo_image_b59]
  have q1 : (((16 : Int32) * v1)).toInt = (v1).toInt * 16 := tmull v1 (16 : Int32) 16 (by decide) (by omega) (by omega)
  have q2 := li_3
  have q3 := tadd ((16 : Int32) * v1) (3 : Int32) (by omega) (by omega)
  refine zok_ck (show vp_in (((16 : Int32) * v1) + (3 : Int32)) 48 from vin (by omega) (by omega)) ?_
  exact t_Mo_image_b74 N hN  _ _ gs0  (IS.sA 63 (upd (zA s0 63) (Int32.toNatClampNeg (((16 : Int32) * v1) + (3 : Int32))) (zI s0 37)) h_s0 (fun _ => tr _)) (show (0 : Int) ≤ (v1).toInt ∧ (v1).toInt ≤ 2 from ⟨by omega, by omega⟩) (Fr.sA g_s0 rfl) 
theorem t_Mo_image_b0 (N : Nat) (hN : 50000000 ≤ N) (s0 : zSt) (v1 : Int32) (gs0 : zSt) (h_s0 : I_Mo s0) (g_s0 : Fr [] [62, 63] s0 gs0) : zok (Mo_image_b0 N s0 v1) (fun z => True ∧ I_Mo z.2 ∧ Fr [] [62, 63] z.2 gs0) := by
  rw [Mo_image_b0]
  rcases u_Mo_isBox N v1  with w1 | ⟨w1, w1_0, w1_1⟩ <;> rw [w1, zbs]
  · refine zok_t (by decide) ?_
    exact zok_some ⟨trivial, h_s0, g_s0⟩
  · have q2 := li_0
    have q3 := tr v1
    have q4 : ((0 : Int32)).toInt ≤ (v1).toInt := w1_0
    have q5 := li_2
    have q6 : (v1).toInt ≤ ((2 : Int32)).toInt := w1_1
    refine zok_f (by decide) ?_
    refine zok_ck (show vp_in v1 3 from vin (by omega) (by omega)) ?_
    have q7 : (((16 : Int32) * v1)).toInt = (v1).toInt * 16 := tmull v1 (16 : Int32) 16 (by decide) (by omega) (by omega)
    refine zok_ck (show vp_in ((16 : Int32) * v1) 48 from vin (by omega) (by omega)) ?_
    have q8 := li_1
    have q9 := tadd ((16 : Int32) * v1) (1 : Int32) (by omega) (by omega)
    refine zok_ck (show vp_in (((16 : Int32) * v1) + (1 : Int32)) 48 from vin (by omega) (by omega)) ?_
    have q10 := tadd ((16 : Int32) * v1) (2 : Int32) (by omega) (by omega)
    refine zok_ck (show vp_in (((16 : Int32) * v1) + (2 : Int32)) 48 from vin (by omega) (by omega)) ?_
    exact t_Mo_image_b59 N hN  _ _ gs0  (IS.sA 63 (upd (upd (upd (zA s0 63) (Int32.toNatClampNeg ((16 : Int32) * v1)) (zI s0 34)) (Int32.toNatClampNeg (((16 : Int32) * v1) + (1 : Int32))) (zI s0 35)) (Int32.toNatClampNeg (((16 : Int32) * v1) + (2 : Int32))) (zI s0 36)) (IS.sA 63 (upd (upd (zA s0 63) (Int32.toNatClampNeg ((16 : Int32) * v1)) (zI s0 34)) (Int32.toNatClampNeg (((16 : Int32) * v1) + (1 : Int32))) (zI s0 35)) (IS.sA 63 (upd (zA s0 63) (Int32.toNatClampNeg ((16 : Int32) * v1)) (zI s0 34)) (IS.sA 62 (upd (zA s0 62) (Int32.toNatClampNeg v1) (1 : Int32)) h_s0 (show ∀ i, (0 : Int) ≤ ((upd (zA s0 62) (Int32.toNatClampNeg v1) (1 : Int32)) i).toInt ∧ ((upd (zA s0 62) (Int32.toNatClampNeg v1) (1 : Int32)) i).toInt ≤ 1 from (rgu (fun i => rgm ((h_s0).2 62 i) (by decide) (by decide)) ⟨by omega, by omega⟩))) (fun _ => tr _)) (fun _ => tr _)) (fun _ => tr _)) (show (0 : Int) ≤ (v1).toInt ∧ (v1).toInt ≤ 2 from ⟨by omega, by omega⟩) (Fr.sA (Fr.sA (Fr.sA (Fr.sA g_s0 rfl) rfl) rfl) rfl) 
theorem t_Mo_image (N : Nat) (hN : 50000000 ≤ N) (s0 : zSt) (v1 : Int32) (h_s0 : I_Mo s0) : zok (Mo_image N s0 v1) (fun z => True ∧ I_Mo z.2 ∧ Fr [] [62, 63] z.2 s0) :=
  t_Mo_image_b0 N hN s0 v1 s0 h_s0 ⟨fun _ _ => rfl, fun _ _ => rfl⟩
theorem t_Mo_back_b93 (N : Nat) (hN : 50000000 ≤ N) (kh93 : zSt → Int32 → Option (Int32 × zSt)) (m93 : Int) (s0 : zSt) (v1 : Int32) (v2 : Int32) (gs0 : zSt) (hkh93 : ∀ (s0 : zSt) (v2 : Int32), I_Mo s0 → (0 : Int) ≤ (v2).toInt ∧ (v2).toInt ≤ 11 → Fr [34, 35, 36, 37, 38] [33] s0 gs0 → 12 - (v2).toInt ≤ m93 - 1 → zok (kh93 s0 v2) (fun z => True ∧ I_Mo z.2 ∧ Fr [34, 35, 36, 37, 38] [33] z.2 gs0)) (h_s0 : I_Mo s0) (h_v1 : (0 : Int) ≤ (v1).toInt ∧ (v1).toInt ≤ 2) (h_v2 : (0 : Int) ≤ (v2).toInt ∧ (v2).toInt ≤ 11) (g_s0 : Fr [34, 35, 36, 37, 38] [33] s0 gs0) (hm93 : 12 - (v2).toInt ≤ m93) : zok (Mo_back_b93 N kh93 s0 v1 v2) (fun z => True ∧ I_Mo z.2 ∧ Fr [34, 35, 36, 37, 38] [33] z.2 gs0) := by
  rw [Mo_back_b93]
  have q2 := li_11
  refine zok_ite (fun c1 => ?_) (fun c1 => ?_)
  · have q3 : ((11 : Int32)).toInt ≤ (v2).toInt := tle c1
    exact zok_some ⟨trivial, h_s0, g_s0⟩
  · have q4 : ((11 : Int32)).toInt > (v2).toInt := tnle c1
    have q5 : (((16 : Int32) * v1)).toInt = (v1).toInt * 16 := tmull v1 (16 : Int32) 16 (by decide) (by omega) (by omega)
    have q6 := li_5
    have q7 := tadd ((16 : Int32) * v1) (5 : Int32) (by omega) (by omega)
    have q8 := tadd (((16 : Int32) * v1) + (5 : Int32)) v2 (by omega) (by omega)
    refine zok_ck (show vp_in ((((16 : Int32) * v1) + (5 : Int32)) + v2) 48 from vin (by omega) (by omega)) ?_
    refine zok_ck (show vp_in v2 11 from vin (by omega) (by omega)) ?_
    have q9 := li_1
    have q10 := tadd v2 (1 : Int32) (by omega) (by omega)
    exact hkh93 _ _ (IS.sA 33 (upd (zA s0 33) (Int32.toNatClampNeg v2) ((zA s0 63) (Int32.toNatClampNeg ((((16 : Int32) * v1) + (5 : Int32)) + v2)))) h_s0 (fun _ => tr _)) (show (0 : Int) ≤ ((v2 + (1 : Int32))).toInt ∧ ((v2 + (1 : Int32))).toInt ≤ 11 from ⟨by omega, by omega⟩) (Fr.sA g_s0 rfl) (show 12 - ((v2 + (1 : Int32))).toInt ≤ m93 - 1 by omega)
theorem t_Mo_back_h93 (N : Nat) (hN : 50000000 ≤ N) (v1 : Int32) (gs0 : zSt) (h_v1 : (0 : Int) ≤ (v1).toInt ∧ (v1).toInt ≤ 2) : ∀ (n : Nat) (s0 : zSt) (v2 : Int32), I_Mo s0 → (0 : Int) ≤ (v2).toInt ∧ (v2).toInt ≤ 11 → Fr [34, 35, 36, 37, 38] [33] s0 gs0 → 12 - (v2).toInt ≤ (n : Int) → zok (Mo_back_h93 N v1 n s0 v2) (fun z => True ∧ I_Mo z.2 ∧ Fr [34, 35, 36, 37, 38] [33] z.2 gs0)
  | 0, s0, v2, h_s0, h_v2, g_s0, hm => absurd hm (by omega)
  | n + 1, s0, v2, h_s0, h_v2, g_s0, hm => by
    rw [Mo_back_h93_s]
    exact t_Mo_back_b93 N hN (Mo_back_h93 N v1 n) ((n + 1 : Nat) : Int) s0 v1 v2 gs0 (fun s0 v2 h_s0 h_v2 g_s0 q => t_Mo_back_h93 N hN  v1 gs0  h_v1   n s0 v2 h_s0 h_v2 g_s0 (by omega)) h_s0 h_v1 h_v2 g_s0 hm
theorem t_Mo_back_b91 (N : Nat) (hN : 50000000 ≤ N) (s0 : zSt) (v1 : Int32) (gs0 : zSt) (h_s0 : I_Mo s0) (h_v1 : (0 : Int) ≤ (v1).toInt ∧ (v1).toInt ≤ 2) (g_s0 : Fr [34, 35, 36, 37, 38] [33] s0 gs0) : zok (Mo_back_b91 N s0 v1) (fun z => True ∧ I_Mo z.2 ∧ Fr [34, 35, 36, 37, 38] [33] z.2 gs0) := by
  rw [Mo_back_b91]
  have q1 := li_0
  exact t_Mo_back_h93 N hN  _ gs0  (show (0 : Int) ≤ (v1).toInt ∧ (v1).toInt ≤ 2 from ⟨by omega, by omega⟩)  N _ _ h_s0 (show (0 : Int) ≤ ((0 : Int32)).toInt ∧ ((0 : Int32)).toInt ≤ 11 from ⟨by omega, by omega⟩) g_s0 (show 12 - ((0 : Int32)).toInt ≤ (N : Int) from by omega)
theorem t_Mo_back_b76 (N : Nat) (hN : 50000000 ≤ N) (s0 : zSt) (v1 : Int32) (gs0 : zSt) (h_s0 : I_Mo s0) (h_v1 : (0 : Int) ≤ (v1).toInt ∧ (v1).toInt ≤ 2) (g_s0 : Fr [34, 35, 36, 37, 38] [33] s0 gs0) : zok (Mo_back_b76 N s0 v1) (fun z => True ∧ I_Mo z.2 ∧ Fr [34, 35, 36, 37, 38] [33] z.2 gs0) := by
  rw [Mo_back_b76]
  have q1 : (((16 : Int32) * v1)).toInt = (v1).toInt * 16 := tmull v1 (16 : Int32) 16 (by decide) (by omega) (by omega)
  have q2 := li_4
  have q3 := tadd ((16 : Int32) * v1) (4 : Int32) (by omega) (by omega)
  refine zok_ck (show vp_in (((16 : Int32) * v1) + (4 : Int32)) 48 from vin (by omega) (by omega)) ?_
  exact t_Mo_back_b91 N hN  _ _ gs0  (IS.pI 38 ((zA s0 63) (Int32.toNatClampNeg (((16 : Int32) * v1) + (4 : Int32)))) h_s0 (tr _)) (show (0 : Int) ≤ (v1).toInt ∧ (v1).toInt ≤ 2 from ⟨by omega, by omega⟩) (Fr.pI g_s0 rfl) 
theorem t_Mo_back_b61 (N : Nat) (hN : 50000000 ≤ N) (s0 : zSt) (v1 : Int32) (gs0 : zSt) (h_s0 : I_Mo s0) (h_v1 : (0 : Int) ≤ (v1).toInt ∧ (v1).toInt ≤ 2) (g_s0 : Fr [34, 35, 36, 37, 38] [33] s0 gs0) : zok (Mo_back_b61 N s0 v1) (fun z => True ∧ I_Mo z.2 ∧ Fr [34, 35, 36, 37, 38] [33] z.2 gs0) := by
  rw [Mo_back_b61]
  have q1 : (((16 : Int32) * v1)).toInt = (v1).toInt * 16 := tmull v1 (16 : Int32) 16 (by decide) (by omega) (by omega)
  have q2 := li_3
  have q3 := tadd ((16 : Int32) * v1) (3 : Int32) (by omega) (by omega)
  refine zok_ck (show vp_in (((16 : Int32) * v1) + (3 : Int32)) 48 from vin (by omega) (by omega)) ?_
  exact t_Mo_back_b76 N hN  _ _ gs0  (IS.pI 37 ((zA s0 63) (Int32.toNatClampNeg (((16 : Int32) * v1) + (3 : Int32)))) h_s0 (tr _)) (show (0 : Int) ≤ (v1).toInt ∧ (v1).toInt ≤ 2 from ⟨by omega, by omega⟩) (Fr.pI g_s0 rfl) 
theorem t_Mo_back_b46 (N : Nat) (hN : 50000000 ≤ N) (s0 : zSt) (v1 : Int32) (gs0 : zSt) (h_s0 : I_Mo s0) (h_v1 : (0 : Int) ≤ (v1).toInt ∧ (v1).toInt ≤ 2) (g_s0 : Fr [34, 35, 36, 37, 38] [33] s0 gs0) : zok (Mo_back_b46 N s0 v1) (fun z => True ∧ I_Mo z.2 ∧ Fr [34, 35, 36, 37, 38] [33] z.2 gs0) := by
  rw [Mo_back_b46]
  have q1 : (((16 : Int32) * v1)).toInt = (v1).toInt * 16 := tmull v1 (16 : Int32) 16 (by decide) (by omega) (by omega)
  have q2 := li_2
  have q3 := tadd ((16 : Int32) * v1) (2 : Int32) (by omega) (by omega)
  refine zok_ck (show vp_in (((16 : Int32) * v1) + (2 : Int32)) 48 from vin (by omega) (by omega)) ?_
  exact t_Mo_back_b61 N hN  _ _ gs0  (IS.pI 36 ((zA s0 63) (Int32.toNatClampNeg (((16 : Int32) * v1) + (2 : Int32)))) h_s0 (tr _)) (show (0 : Int) ≤ (v1).toInt ∧ (v1).toInt ≤ 2 from ⟨by omega, by omega⟩) (Fr.pI g_s0 rfl) 
theorem t_Mo_back_b31 (N : Nat) (hN : 50000000 ≤ N) (s0 : zSt) (v1 : Int32) (gs0 : zSt) (h_s0 : I_Mo s0) (h_v1 : (0 : Int) ≤ (v1).toInt ∧ (v1).toInt ≤ 2) (g_s0 : Fr [34, 35, 36, 37, 38] [33] s0 gs0) : zok (Mo_back_b31 N s0 v1) (fun z => True ∧ I_Mo z.2 ∧ Fr [34, 35, 36, 37, 38] [33] z.2 gs0) := by
  rw [Mo_back_b31]
  have q1 : (((16 : Int32) * v1)).toInt = (v1).toInt * 16 := tmull v1 (16 : Int32) 16 (by decide) (by omega) (by omega)
  have q2 := li_1
  have q3 := tadd ((16 : Int32) * v1) (1 : Int32) (by omega) (by omega)
  refine zok_ck (show vp_in (((16 : Int32) * v1) + (1 : Int32)) 48 from vin (by omega) (by omega)) ?_
  exact t_Mo_back_b46 N hN  _ _ gs0  (IS.pI 35 ((zA s0 63) (Int32.toNatClampNeg (((16 : Int32) * v1) + (1 : Int32)))) h_s0 (tr _)) (show (0 : Int) ≤ (v1).toInt ∧ (v1).toInt ≤ 2 from ⟨by omega, by omega⟩) (Fr.pI g_s0 rfl) 
theorem t_Mo_back_b0 (N : Nat) (hN : 50000000 ≤ N) (s0 : zSt) (v1 : Int32) (gs0 : zSt) (h_s0 : I_Mo s0) (g_s0 : Fr [34, 35, 36, 37, 38] [33] s0 gs0) : zok (Mo_back_b0 N s0 v1) (fun z => True ∧ I_Mo z.2 ∧ Fr [34, 35, 36, 37, 38] [33] z.2 gs0) := by
  rw [Mo_back_b0]
  rcases u_Mo_isBox N v1  with w1 | ⟨w1, w1_0, w1_1⟩ <;> rw [w1, zbs]
  · refine zok_t (by decide) ?_
    exact zok_some ⟨trivial, h_s0, g_s0⟩
  · have q2 := li_0
    have q3 := tr v1
    have q4 : ((0 : Int32)).toInt ≤ (v1).toInt := w1_0
    have q5 := li_2
    have q6 : (v1).toInt ≤ ((2 : Int32)).toInt := w1_1
    refine zok_f (by decide) ?_
    refine zok_ck (show vp_in v1 3 from vin (by omega) (by omega)) ?_
    have q8 : (0 : Int) ≤ (((zA s0 62) (Int32.toNatClampNeg v1))).toInt ∧ (((zA s0 62) (Int32.toNatClampNeg v1))).toInt ≤ 1 := (h_s0).2 62 _
    refine zok_ite (fun c7 => ?_) (fun c7 => ?_)
    · have q9 : (((zA s0 62) (Int32.toNatClampNeg v1))).toInt = ((0 : Int32)).toInt := teq c7
      exact zok_some ⟨trivial, h_s0, g_s0⟩
    · have q10 : (((zA s0 62) (Int32.toNatClampNeg v1))).toInt ≠ ((0 : Int32)).toInt := tneq c7
      have q11 : (((16 : Int32) * v1)).toInt = (v1).toInt * 16 := tmull v1 (16 : Int32) 16 (by decide) (by omega) (by omega)
      refine zok_ck (show vp_in ((16 : Int32) * v1) 48 from vin (by omega) (by omega)) ?_
      exact t_Mo_back_b31 N hN  _ _ gs0  (IS.pI 34 ((zA s0 63) (Int32.toNatClampNeg ((16 : Int32) * v1))) h_s0 (tr _)) (show (0 : Int) ≤ (v1).toInt ∧ (v1).toInt ≤ 2 from ⟨by omega, by omega⟩) (Fr.pI g_s0 rfl) 
theorem t_Mo_back (N : Nat) (hN : 50000000 ≤ N) (s0 : zSt) (v1 : Int32) (h_s0 : I_Mo s0) : zok (Mo_back N s0 v1) (fun z => True ∧ I_Mo z.2 ∧ Fr [34, 35, 36, 37, 38] [33] z.2 s0) :=
  t_Mo_back_b0 N hN s0 v1 s0 h_s0 ⟨fun _ _ => rfl, fun _ _ => rfl⟩
theorem t_Mo_about_b0 (N : Nat) (hN : 50000000 ≤ N) (s0 : zSt) (v1 : Int32) (h_s0 : I_Mo s0) : zok (Mo_about_b0 N s0 v1) (fun z => True) := by
  rw [Mo_about_b0]
  have q2 := tr v1
  have q3 := li_0
  refine zok_ite (fun c1 => ?_) (fun c1 => ?_)
  · have q4 : (v1).toInt = ((0 : Int32)).toInt := teq c1
    exact zok_some trivial
  · have q5 : (v1).toInt ≠ ((0 : Int32)).toInt := tneq c1
    have q7 := li_1
    refine zok_ite (fun c6 => ?_) (fun c6 => ?_)
    · have q8 : (v1).toInt = ((1 : Int32)).toInt := teq c6
      exact zok_some trivial
    · have q9 : (v1).toInt ≠ ((1 : Int32)).toInt := tneq c6
      have q11 := li_2
      refine zok_ite (fun c10 => ?_) (fun c10 => ?_)
      · have q12 : (v1).toInt = ((2 : Int32)).toInt := teq c10
        exact zok_some trivial
      · have q13 : (v1).toInt ≠ ((2 : Int32)).toInt := tneq c10
        have q15 := li_3
        refine zok_ite (fun c14 => ?_) (fun c14 => ?_)
        · have q16 : (v1).toInt = ((3 : Int32)).toInt := teq c14
          exact zok_some trivial
        · have q17 : (v1).toInt ≠ ((3 : Int32)).toInt := tneq c14
          have q19 := li_4
          refine zok_ite (fun c18 => ?_) (fun c18 => ?_)
          · have q20 : (v1).toInt = ((4 : Int32)).toInt := teq c18
            exact zok_some trivial
          · have q21 : (v1).toInt ≠ ((4 : Int32)).toInt := tneq c18
            have q23 := li_5
            refine zok_ite (fun c22 => ?_) (fun c22 => ?_)
            · have q24 : (v1).toInt = ((5 : Int32)).toInt := teq c22
              exact zok_some trivial
            · have q25 : (v1).toInt ≠ ((5 : Int32)).toInt := tneq c22
              have q27 := li_6
              refine zok_ite (fun c26 => ?_) (fun c26 => ?_)
              · have q28 : (v1).toInt = ((6 : Int32)).toInt := teq c26
                exact zok_some trivial
              · have q29 : (v1).toInt ≠ ((6 : Int32)).toInt := tneq c26
                have q31 := li_7
                refine zok_ite (fun c30 => ?_) (fun c30 => ?_)
                · have q32 : (v1).toInt = ((7 : Int32)).toInt := teq c30
                  exact zok_some trivial
                · have q33 : (v1).toInt ≠ ((7 : Int32)).toInt := tneq c30
                  have q35 := li_8
                  refine zok_ite (fun c34 => ?_) (fun c34 => ?_)
                  · have q36 : (v1).toInt = ((8 : Int32)).toInt := teq c34
                    exact zok_some trivial
                  · have q37 : (v1).toInt ≠ ((8 : Int32)).toInt := tneq c34
                    have q39 := li_9
                    refine zok_ite (fun c38 => ?_) (fun c38 => ?_)
                    · have q40 : (v1).toInt = ((9 : Int32)).toInt := teq c38
                      exact zok_some trivial
                    · have q41 : (v1).toInt ≠ ((9 : Int32)).toInt := tneq c38
                      have q43 := li_10
                      refine zok_ite (fun c42 => ?_) (fun c42 => ?_)
                      · have q44 : (v1).toInt = ((10 : Int32)).toInt := teq c42
                        exact zok_some trivial
                      · have q45 : (v1).toInt ≠ ((10 : Int32)).toInt := tneq c42
                        exact zok_some trivial
theorem t_Mo_about (N : Nat) (hN : 50000000 ≤ N) (s0 : zSt) (v1 : Int32) (h_s0 : I_Mo s0) : zok (Mo_about N s0 v1) (fun z => True) :=
  t_Mo_about_b0 N hN s0 v1  h_s0 
