theorem t_Mo_came (N : Nat) (hN : 50000000 ≤ N) (s0 : zSt) (v1 : Int32) (v2 : Int32) (v3 : Int32) (v4 : Int32) (v5 : Int32) (h_s0 : I_Mo s0) : zok (Mo_came N s0 v1 v2 v3 v4 v5) (fun z => True) :=
  t_Mo_came_b0 N hN s0 v1 v2 v3 v4 v5  h_s0 
theorem t_Mo_tonesIn_b4 (N : Nat) (hN : 50000000 ≤ N) (kh4 : Int32 → Int32 → Option (Int32)) (m4 : Int) (s0 : zSt) (v1 : Int32) (v2 : Int32) (v3 : Int32) (hkh4 : ∀ (v2 : Int32) (v3 : Int32), (0 : Int) ≤ (v2).toInt ∧ (v2).toInt ≤ 4095 → (0 : Int) ≤ (v3).toInt ∧ (v3).toInt ≤ 8 → 9 - (v3).toInt ≤ m4 - 1 → zok (kh4 v2 v3) (fun z => ((0 : Int) ≤ (z).toInt ∧ (z).toInt ≤ 4095))) (h_s0 : I_Mo s0) (h_s0_30 : (0 : Int) ≤ (zI s0 30).toInt ∧ (zI s0 30).toInt ≤ 8) (h_v2 : (0 : Int) ≤ (v2).toInt ∧ (v2).toInt ≤ 4095) (h_v3 : (0 : Int) ≤ (v3).toInt ∧ (v3).toInt ≤ 8) (hm4 : 9 - (v3).toInt ≤ m4) : zok (Mo_tonesIn_b4 N kh4 s0 v1 v2 v3) (fun z => ((0 : Int) ≤ (z).toInt ∧ (z).toInt ≤ 4095)) := by
  rw [Mo_tonesIn_b4]
  have q2 : (0 : Int) ≤ ((zI s0 30)).toInt ∧ ((zI s0 30)).toInt ≤ 9 := (h_s0).1 30
  refine zok_ite (fun c1 => ?_) (fun c1 => ?_)
  · have q3 : ((zI s0 30)).toInt ≤ (v3).toInt := tle c1
    exact zok_some (show (0 : Int) ≤ (v2).toInt ∧ (v2).toInt ≤ 4095 from ⟨by omega, by omega⟩)
  · have q4 : ((zI s0 30)).toInt > (v3).toInt := tnle c1
    refine zok_ck (show vp_in v3 9 from vin (by omega) (by omega)) ?_
    have q5 : (0 : Int) ≤ (((zA s0 21) (Int32.toNatClampNeg v3))).toInt ∧ (((zA s0 21) (Int32.toNatClampNeg v3))).toInt ≤ 10 := (h_s0).2 21 _
    refine zok_ck (show vp_in ((zA s0 21) (Int32.toNatClampNeg v3)) 11 from vin (by omega) (by omega)) ?_
    refine zok_ck (show vp_in v3 9 from vin (by omega) (by omega)) ?_
    refine zok_bind (t_Mo_modulo N hN (((zA s0 16) (Int32.toNatClampNeg ((zA s0 21) (Int32.toNatClampNeg v3)))) - (((zA s0 56) (Int32.toNatClampNeg v3)) * v1)) ) (fun z5 hz5 => ?_)
    have h_z5 := hz5
    have q6 := tshl z5 11 (by decide) (by omega) (by omega)
    have q7 := tor v2 ((1 : Int32) <<< (z5 &&& (31 : Int32))) 12 (by decide) (by omega) (by omega) (by omega) (by omega)
    have q8 := li_1
    have q9 := tadd v3 (1 : Int32) (by omega) (by omega)
    exact hkh4 _ _ (show (0 : Int) ≤ ((v2 ||| ((1 : Int32) <<< (z5 &&& (31 : Int32))))).toInt ∧ ((v2 ||| ((1 : Int32) <<< (z5 &&& (31 : Int32))))).toInt ≤ 4095 from ⟨by omega, by omega⟩) (show (0 : Int) ≤ ((v3 + (1 : Int32))).toInt ∧ ((v3 + (1 : Int32))).toInt ≤ 8 from ⟨by omega, by omega⟩) (show 9 - ((v3 + (1 : Int32))).toInt ≤ m4 - 1 by omega)
theorem t_Mo_tonesIn_h4 (N : Nat) (hN : 50000000 ≤ N) (s0 : zSt) (v1 : Int32) (h_s0 : I_Mo s0) (h_s0_30 : (0 : Int) ≤ (zI s0 30).toInt ∧ (zI s0 30).toInt ≤ 8) : ∀ (n : Nat) (v2 : Int32) (v3 : Int32), (0 : Int) ≤ (v2).toInt ∧ (v2).toInt ≤ 4095 → (0 : Int) ≤ (v3).toInt ∧ (v3).toInt ≤ 8 → 9 - (v3).toInt ≤ (n : Int) → zok (Mo_tonesIn_h4 N s0 v1 n v2 v3) (fun z => ((0 : Int) ≤ (z).toInt ∧ (z).toInt ≤ 4095))
  | 0, v2, v3, h_v2, h_v3, hm => absurd hm (by omega)
  | n + 1, v2, v3, h_v2, h_v3, hm => by
    rw [Mo_tonesIn_h4_s]
    exact t_Mo_tonesIn_b4 N hN (Mo_tonesIn_h4 N s0 v1 n) ((n + 1 : Nat) : Int) s0 v1 v2 v3  (fun v2 v3 h_v2 h_v3 q => t_Mo_tonesIn_h4 N hN  s0 v1   h_s0 h_s0_30   n v2 v3 h_v2 h_v3 (by omega)) h_s0 h_s0_30 h_v2 h_v3  hm
theorem t_Mo_tonesIn_b0 (N : Nat) (hN : 50000000 ≤ N) (s0 : zSt) (v1 : Int32) (h_s0 : I_Mo s0) (h_s0_30 : (0 : Int) ≤ (zI s0 30).toInt ∧ (zI s0 30).toInt ≤ 8) : zok (Mo_tonesIn_b0 N s0 v1) (fun z => ((0 : Int) ≤ (z).toInt ∧ (z).toInt ≤ 4095)) := by
  rw [Mo_tonesIn_b0]
  have q1 : (0 : Int) ≤ ((zI s0 30)).toInt ∧ ((zI s0 30)).toInt ≤ 9 := (h_s0).1 30
  have q2 := li_0
  exact t_Mo_tonesIn_h4 N hN  _ _   h_s0 (show (0 : Int) ≤ ((zI s0 30)).toInt ∧ ((zI s0 30)).toInt ≤ 8 from ⟨by omega, by omega⟩)  N _ _ (show (0 : Int) ≤ ((0 : Int32)).toInt ∧ ((0 : Int32)).toInt ≤ 4095 from ⟨by omega, by omega⟩) (show (0 : Int) ≤ ((0 : Int32)).toInt ∧ ((0 : Int32)).toInt ≤ 8 from ⟨by omega, by omega⟩) (show 9 - ((0 : Int32)).toInt ≤ (N : Int) from by omega)
theorem t_Mo_tonesIn (N : Nat) (hN : 50000000 ≤ N) (s0 : zSt) (v1 : Int32) (h_s0 : I_Mo s0) (h_s0_30 : (0 : Int) ≤ (zI s0 30).toInt ∧ (zI s0 30).toInt ≤ 8) : zok (Mo_tonesIn N s0 v1) (fun z => ((0 : Int) ≤ (z).toInt ∧ (z).toInt ≤ 4095)) :=
  t_Mo_tonesIn_b0 N hN s0 v1  h_s0 h_s0_30 
theorem t_Mo_areEvenings_b52 (N : Nat) (hN : 50000000 ≤ N) (kh5 : Int32 → Int32 → Option (Int32)) (m5 : Int) (s0 : zSt) (v1 : Int32) (v2 : Int32) (v4 : Int32) (t0 : Int32) (hkh5 : ∀ (v3 : Int32) (v4 : Int32), (0 : Int) ≤ (v3).toInt ∧ (v3).toInt ≤ 1 → (0 : Int) ≤ (v4).toInt ∧ (v4).toInt ≤ 40 → 41 - (v4).toInt ≤ m5 - 1 → zok (kh5 v3 v4) (fun z => ((0 : Int) ≤ (z).toInt ∧ (z).toInt ≤ 1))) (h_s0 : I_Mo s0) (h_s0_30 : (0 : Int) ≤ (zI s0 30).toInt ∧ (zI s0 30).toInt ≤ 8) (h_v2 : (0 : Int) ≤ (v2).toInt ∧ (v2).toInt ≤ 39) (h_v4 : (0 : Int) ≤ (v4).toInt ∧ (v4).toInt ≤ 39) (h_t0 : (0 : Int) ≤ (t0).toInt ∧ (t0).toInt ≤ 1) (hm5 : 41 - (v4).toInt ≤ m5) : zok (Mo_areEvenings_b52 N kh5 s0 v1 v2 v4 t0) (fun z => ((0 : Int) ≤ (z).toInt ∧ (z).toInt ≤ 1)) := by
  rw [Mo_areEvenings_b52]
  have q1 := li_1
  have q2 := tadd v4 (1 : Int32) (by omega) (by omega)
  exact hkh5 _ _ (show (0 : Int) ≤ (t0).toInt ∧ (t0).toInt ≤ 1 from ⟨by omega, by omega⟩) (show (0 : Int) ≤ ((v4 + (1 : Int32))).toInt ∧ ((v4 + (1 : Int32))).toInt ≤ 40 from ⟨by omega, by omega⟩) (show 41 - ((v4 + (1 : Int32))).toInt ≤ m5 - 1 by omega)
theorem t_Mo_areEvenings_b47 (N : Nat) (hN : 50000000 ≤ N) (kh5 : Int32 → Int32 → Option (Int32)) (m5 : Int) (s0 : zSt) (v1 : Int32) (v2 : Int32) (v4 : Int32) (hkh5 : ∀ (v3 : Int32) (v4 : Int32), (0 : Int) ≤ (v3).toInt ∧ (v3).toInt ≤ 1 → (0 : Int) ≤ (v4).toInt ∧ (v4).toInt ≤ 40 → 41 - (v4).toInt ≤ m5 - 1 → zok (kh5 v3 v4) (fun z => ((0 : Int) ≤ (z).toInt ∧ (z).toInt ≤ 1))) (h_s0 : I_Mo s0) (h_s0_30 : (0 : Int) ≤ (zI s0 30).toInt ∧ (zI s0 30).toInt ≤ 8) (h_v2 : (0 : Int) ≤ (v2).toInt ∧ (v2).toInt ≤ 39) (h_v4 : (0 : Int) ≤ (v4).toInt ∧ (v4).toInt ≤ 39) (hm5 : 41 - (v4).toInt ≤ m5) : zok (Mo_areEvenings_b47 N kh5 s0 v1 v2 v4) (fun z => ((0 : Int) ≤ (z).toInt ∧ (z).toInt ≤ 1)) := by
  rw [Mo_areEvenings_b47]
  have q1 : (0 : Int) ≤ ((zI s0 30)).toInt ∧ ((zI s0 30)).toInt ≤ 9 := (h_s0).1 30
  have q2 := li_1
  exact t_Mo_areEvenings_b52 N hN kh5 m5 _ _ _ _ _  hkh5 h_s0 (show (0 : Int) ≤ ((zI s0 30)).toInt ∧ ((zI s0 30)).toInt ≤ 8 from ⟨by omega, by omega⟩) (show (0 : Int) ≤ (v2).toInt ∧ (v2).toInt ≤ 39 from ⟨by omega, by omega⟩) (show (0 : Int) ≤ (v4).toInt ∧ (v4).toInt ≤ 39 from ⟨by omega, by omega⟩) (show (0 : Int) ≤ ((1 : Int32)).toInt ∧ ((1 : Int32)).toInt ≤ 1 from ⟨by omega, by omega⟩) (show 41 - (v4).toInt ≤ m5 from by omega)
theorem t_Mo_areEvenings_b5 (N : Nat) (hN : 50000000 ≤ N) (kh5 : Int32 → Int32 → Option (Int32)) (m5 : Int) (s0 : zSt) (v1 : Int32) (v2 : Int32) (v3 : Int32) (v4 : Int32) (hkh5 : ∀ (v3 : Int32) (v4 : Int32), (0 : Int) ≤ (v3).toInt ∧ (v3).toInt ≤ 1 → (0 : Int) ≤ (v4).toInt ∧ (v4).toInt ≤ 40 → 41 - (v4).toInt ≤ m5 - 1 → zok (kh5 v3 v4) (fun z => ((0 : Int) ≤ (z).toInt ∧ (z).toInt ≤ 1))) (h_s0 : I_Mo s0) (h_s0_30 : (0 : Int) ≤ (zI s0 30).toInt ∧ (zI s0 30).toInt ≤ 8) (h_v2 : (-1 : Int) ≤ (v2).toInt ∧ (v2).toInt ≤ 39) (h_v3 : (0 : Int) ≤ (v3).toInt ∧ (v3).toInt ≤ 1) (h_v4 : (0 : Int) ≤ (v4).toInt ∧ (v4).toInt ≤ 40) (hm5 : 41 - (v4).toInt ≤ m5) : zok (Mo_areEvenings_b5 N kh5 s0 v1 v2 v3 v4) (fun z => ((0 : Int) ≤ (z).toInt ∧ (z).toInt ≤ 1)) := by
  rw [Mo_areEvenings_b5]
  refine zok_ite (fun c1 => ?_) (fun c1 => ?_)
  · have q2 : (v2).toInt < (v4).toInt := tlt c1
    refine zok_cb (t01 (by omega) (by omega)) ?_
    exact zok_some (show (0 : Int) ≤ (v3).toInt ∧ (v3).toInt ≤ 1 from ⟨by omega, by omega⟩)
  · have q3 : (v2).toInt ≥ (v4).toInt := tnlt c1
    have q5 := li_0
    refine zok_ite (fun c4 => ?_) (fun c4 => ?_)
    · have q6 : (v3).toInt = ((0 : Int32)).toInt := teq c4
      refine zok_cb (t01 (by omega) (by omega)) ?_
      exact zok_some (show (0 : Int) ≤ (v3).toInt ∧ (v3).toInt ≤ 1 from ⟨by omega, by omega⟩)
    · have q7 : (v3).toInt ≠ ((0 : Int32)).toInt := tneq c4
      have q8 := li_1
      refine zok_bind (t_Mo_counts N hN s0 v4 (1 : Int32) v1 h_s0 (show (0 : Int) ≤ (v4).toInt ∧ (v4).toInt ≤ 39 from ⟨by omega, by omega⟩) (show (0 : Int) ≤ ((1 : Int32)).toInt ∧ ((1 : Int32)).toInt ≤ 1 from ⟨by omega, by omega⟩)) (fun z5 hz5 => ?_)
      have h_z5 := hz5
      refine zok_ite (fun c9 => ?_) (fun c9 => ?_)
      · have q10 : (z5).toInt = ((0 : Int32)).toInt := teq c9
        have q11 : (0 : Int) ≤ ((zI s0 30)).toInt ∧ ((zI s0 30)).toInt ≤ 9 := (h_s0).1 30
        exact t_Mo_areEvenings_b47 N hN kh5 m5 _ _ _ _  hkh5 h_s0 (show (0 : Int) ≤ ((zI s0 30)).toInt ∧ ((zI s0 30)).toInt ≤ 8 from ⟨by omega, by omega⟩) (show (0 : Int) ≤ (v2).toInt ∧ (v2).toInt ≤ 39 from ⟨by omega, by omega⟩) (show (0 : Int) ≤ (v4).toInt ∧ (v4).toInt ≤ 39 from ⟨by omega, by omega⟩) (show 41 - (v4).toInt ≤ m5 from by omega)
      · have q12 : (z5).toInt ≠ ((0 : Int32)).toInt := tneq c9
        refine zok_ck (show vp_in v4 40 from vin (by omega) (by omega)) ?_
        have q13 : (0 : Int) ≤ ((zI s0 30)).toInt ∧ ((zI s0 30)).toInt ≤ 9 := (h_s0).1 30
        refine zok_bind (t_Mo_tonesIn N hN s0 ((zA s0 40) (Int32.toNatClampNeg v4)) h_s0 (show (0 : Int) ≤ ((zI s0 30)).toInt ∧ ((zI s0 30)).toInt ≤ 8 from ⟨by omega, by omega⟩)) (fun z9 hz9 => ?_)
        have h_z9 := hz9
        refine zok_ck (show vp_in v4 40 from vin (by omega) (by omega)) ?_
        have q15 := tr ((zA s0 42) (Int32.toNatClampNeg v4))
        refine zok_ite (fun c14 => ?_) (fun c14 => ?_)
        · have q16 : (z9).toInt = (((zA s0 42) (Int32.toNatClampNeg v4))).toInt := teq c14
          exact t_Mo_areEvenings_b47 N hN kh5 m5 _ _ _ _  hkh5 h_s0 (show (0 : Int) ≤ ((zI s0 30)).toInt ∧ ((zI s0 30)).toInt ≤ 8 from ⟨by omega, by omega⟩) (show (0 : Int) ≤ (v2).toInt ∧ (v2).toInt ≤ 39 from ⟨by omega, by omega⟩) (show (0 : Int) ≤ (v4).toInt ∧ (v4).toInt ≤ 39 from ⟨by omega, by omega⟩) (show 41 - (v4).toInt ≤ m5 from by omega)
        · have q17 : (z9).toInt ≠ (((zA s0 42) (Int32.toNatClampNeg v4))).toInt := tneq c14
          exact t_Mo_areEvenings_b52 N hN kh5 m5 _ _ _ _ _  hkh5 h_s0 (show (0 : Int) ≤ ((zI s0 30)).toInt ∧ ((zI s0 30)).toInt ≤ 8 from ⟨by omega, by omega⟩) (show (0 : Int) ≤ (v2).toInt ∧ (v2).toInt ≤ 39 from ⟨by omega, by omega⟩) (show (0 : Int) ≤ (v4).toInt ∧ (v4).toInt ≤ 39 from ⟨by omega, by omega⟩) (show (0 : Int) ≤ ((0 : Int32)).toInt ∧ ((0 : Int32)).toInt ≤ 1 from ⟨by omega, by omega⟩) (show 41 - (v4).toInt ≤ m5 from by omega)
theorem t_Mo_areEvenings_h5 (N : Nat) (hN : 50000000 ≤ N) (s0 : zSt) (v1 : Int32) (v2 : Int32) (h_s0 : I_Mo s0) (h_s0_30 : (0 : Int) ≤ (zI s0 30).toInt ∧ (zI s0 30).toInt ≤ 8) (h_v2 : (-1 : Int) ≤ (v2).toInt ∧ (v2).toInt ≤ 39) : ∀ (n : Nat) (v3 : Int32) (v4 : Int32), (0 : Int) ≤ (v3).toInt ∧ (v3).toInt ≤ 1 → (0 : Int) ≤ (v4).toInt ∧ (v4).toInt ≤ 40 → 41 - (v4).toInt ≤ (n : Int) → zok (Mo_areEvenings_h5 N s0 v1 v2 n v3 v4) (fun z => ((0 : Int) ≤ (z).toInt ∧ (z).toInt ≤ 1))
  | 0, v3, v4, h_v3, h_v4, hm => absurd hm (by omega)
  | n + 1, v3, v4, h_v3, h_v4, hm => by
    rw [Mo_areEvenings_h5_s]
    exact t_Mo_areEvenings_b5 N hN (Mo_areEvenings_h5 N s0 v1 v2 n) ((n + 1 : Nat) : Int) s0 v1 v2 v3 v4  (fun v3 v4 h_v3 h_v4 q => t_Mo_areEvenings_h5 N hN  s0 v1 v2   h_s0 h_s0_30 h_v2   n v3 v4 h_v3 h_v4 (by omega)) h_s0 h_s0_30 h_v2 h_v3 h_v4  hm
theorem t_Mo_areEvenings_b0 (N : Nat) (hN : 50000000 ≤ N) (s0 : zSt) (v1 : Int32) (v2 : Int32) (h_s0 : I_Mo s0) (h_s0_30 : (0 : Int) ≤ (zI s0 30).toInt ∧ (zI s0 30).toInt ≤ 8) (h_v2 : (-1 : Int) ≤ (v2).toInt ∧ (v2).toInt ≤ 39) : zok (Mo_areEvenings_b0 N s0 v1 v2) (fun z => ((0 : Int) ≤ (z).toInt ∧ (z).toInt ≤ 1)) := by
  rw [Mo_areEvenings_b0]
  have q1 : (0 : Int) ≤ ((zI s0 30)).toInt ∧ ((zI s0 30)).toInt ≤ 9 := (h_s0).1 30
  have q2 := li_1
  have q3 := li_0
  exact t_Mo_areEvenings_h5 N hN  _ _ _   h_s0 (show (0 : Int) ≤ ((zI s0 30)).toInt ∧ ((zI s0 30)).toInt ≤ 8 from ⟨by omega, by omega⟩) (show (-1 : Int) ≤ (v2).toInt ∧ (v2).toInt ≤ 39 from ⟨by omega, by omega⟩)  N _ _ (show (0 : Int) ≤ ((1 : Int32)).toInt ∧ ((1 : Int32)).toInt ≤ 1 from ⟨by omega, by omega⟩) (show (0 : Int) ≤ ((0 : Int32)).toInt ∧ ((0 : Int32)).toInt ≤ 40 from ⟨by omega, by omega⟩) (show 41 - ((0 : Int32)).toInt ≤ (N : Int) from by omega)
theorem t_Mo_areEvenings (N : Nat) (hN : 50000000 ≤ N) (s0 : zSt) (v1 : Int32) (v2 : Int32) (h_s0 : I_Mo s0) (h_s0_30 : (0 : Int) ≤ (zI s0 30).toInt ∧ (zI s0 30).toInt ≤ 8) (h_v2 : (-1 : Int) ≤ (v2).toInt ∧ (v2).toInt ≤ 39) : zok (Mo_areEvenings N s0 v1 v2) (fun z => ((0 : Int) ≤ (z).toInt ∧ (z).toInt ≤ 1)) :=
  t_Mo_areEvenings_b0 N hN s0 v1 v2  h_s0 h_s0_30 h_v2 
theorem t_Mo_nextTried_b7 (N : Nat) (hN : 50000000 ≤ N) (kh7 : zSt → Int32 → Option (Int32 × zSt)) (m7 : Int) (s0 : zSt) (v1 : Int32) (gs0 : zSt) (hkh7 : ∀ (s0 : zSt) (v1 : Int32), I_Mo s0 → (0 : Int) ≤ (zI s0 30).toInt ∧ (zI s0 30).toInt ≤ 8 → (-1 : Int) ≤ (v1).toInt ∧ (v1).toInt ≤ 7 → Fr [] [56] s0 gs0 → (v1).toInt - (-2) ≤ m7 - 1 → zok (kh7 s0 v1) (fun z => ((0 : Int) ≤ (z.1).toInt ∧ (z.1).toInt ≤ 1) ∧ I_Mo z.2 ∧ Fr [] [56] z.2 gs0)) (h_s0 : I_Mo s0) (h_s0_30 : (0 : Int) ≤ (zI s0 30).toInt ∧ (zI s0 30).toInt ≤ 8) (h_v1 : (-1 : Int) ≤ (v1).toInt ∧ (v1).toInt ≤ 7) (g_s0 : Fr [] [56] s0 gs0) (hm7 : (v1).toInt - (-2) ≤ m7) : zok (Mo_nextTried_b7 N kh7 s0 v1) (fun z => ((0 : Int) ≤ (z.1).toInt ∧ (z.1).toInt ≤ 1) ∧ I_Mo z.2 ∧ Fr [] [56] z.2 gs0) := by
  rw [Mo_nextTried_b7]
  have q2 := li_0
  refine zok_ite (fun c1 => ?_) (fun c1 => ?_)
  · have q3 : (v1).toInt < ((0 : Int32)).toInt := tlt c1
    exact zok_some ⟨(show (0 : Int) ≤ ((0 : Int32)).toInt ∧ ((0 : Int32)).toInt ≤ 1 from ⟨by omega, by omega⟩), h_s0, g_s0⟩
  · have q4 : (v1).toInt ≥ ((0 : Int32)).toInt := tnlt c1
    refine zok_ck (show vp_in v1 9 from vin (by omega) (by omega)) ?_
    have q6 := li_2
    have q7 : (0 : Int) ≤ (((zA s0 56) (Int32.toNatClampNeg v1))).toInt ∧ (((zA s0 56) (Int32.toNatClampNeg v1))).toInt ≤ 11 := (h_s0).2 56 _
    refine zok_ite (fun c5 => ?_) (fun c5 => ?_)
    · have q8 : ((2 : Int32)).toInt ≤ (((zA s0 56) (Int32.toNatClampNeg v1))).toInt := tle c5
      refine zok_ck (show vp_in v1 9 from vin (by omega) (by omega)) ?_
      have q9 : (0 : Int) ≤ ((zI s0 30)).toInt ∧ ((zI s0 30)).toInt ≤ 9 := (h_s0).1 30
      have q10 := li_m1
      have q11 := tadd v1 ((-1) : Int32) (by omega) (by omega)
      exact hkh7 _ _ (IS.sA 56 (upd (zA s0 56) (Int32.toNatClampNeg v1) (0 : Int32)) h_s0 (show ∀ i, (0 : Int) ≤ ((upd (zA s0 56) (Int32.toNatClampNeg v1) (0 : Int32)) i).toInt ∧ ((upd (zA s0 56) (Int32.toNatClampNeg v1) (0 : Int32)) i).toInt ≤ 11 from (rgu (fun i => rgm ((h_s0).2 56 i) (by decide) (by decide)) ⟨by omega, by omega⟩))) (show (0 : Int) ≤ ((zI s0 30)).toInt ∧ ((zI s0 30)).toInt ≤ 8 from ⟨by omega, by omega⟩) (show (-1 : Int) ≤ ((v1 + ((-1) : Int32))).toInt ∧ ((v1 + ((-1) : Int32))).toInt ≤ 7 from ⟨by omega, by omega⟩) (Fr.sA g_s0 rfl) (show ((v1 + ((-1) : Int32))).toInt - (-2) ≤ m7 - 1 by omega)
    · have q12 : ((2 : Int32)).toInt > (((zA s0 56) (Int32.toNatClampNeg v1))).toInt := tnle c5
      refine zok_ck (show vp_in v1 9 from vin (by omega) (by omega)) ?_
      refine zok_ck (show vp_in v1 9 from vin (by omega) (by omega)) ?_
      have q13 := li_1
      have q14 := tadd ((zA s0 56) (Int32.toNatClampNeg v1)) (1 : Int32) (by omega) (by omega)
      exact zok_some ⟨(show (0 : Int) ≤ ((1 : Int32)).toInt ∧ ((1 : Int32)).toInt ≤ 1 from ⟨by omega, by omega⟩), (IS.sA 56 (upd (zA s0 56) (Int32.toNatClampNeg v1) (((zA s0 56) (Int32.toNatClampNeg v1)) + (1 : Int32))) h_s0 (show ∀ i, (0 : Int) ≤ ((upd (zA s0 56) (Int32.toNatClampNeg v1) (((zA s0 56) (Int32.toNatClampNeg v1)) + (1 : Int32))) i).toInt ∧ ((upd (zA s0 56) (Int32.toNatClampNeg v1) (((zA s0 56) (Int32.toNatClampNeg v1)) + (1 : Int32))) i).toInt ≤ 11 from (rgu (fun i => rgm ((h_s0).2 56 i) (by decide) (by decide)) ⟨by omega, by omega⟩))), (Fr.sA g_s0 rfl)⟩
theorem t_Mo_nextTried_h7 (N : Nat) (hN : 50000000 ≤ N) (gs0 : zSt) : ∀ (n : Nat) (s0 : zSt) (v1 : Int32), I_Mo s0 → (0 : Int) ≤ (zI s0 30).toInt ∧ (zI s0 30).toInt ≤ 8 → (-1 : Int) ≤ (v1).toInt ∧ (v1).toInt ≤ 7 → Fr [] [56] s0 gs0 → (v1).toInt - (-2) ≤ (n : Int) → zok (Mo_nextTried_h7 N  n s0 v1) (fun z => ((0 : Int) ≤ (z.1).toInt ∧ (z.1).toInt ≤ 1) ∧ I_Mo z.2 ∧ Fr [] [56] z.2 gs0)
  | 0, s0, v1, h_s0, h_s0_30, h_v1, g_s0, hm => absurd hm (by omega)
  | n + 1, s0, v1, h_s0, h_s0_30, h_v1, g_s0, hm => by
    rw [Mo_nextTried_h7_s]
    exact t_Mo_nextTried_b7 N hN (Mo_nextTried_h7 N  n) ((n + 1 : Nat) : Int) s0 v1 gs0 (fun s0 v1 h_s0 h_s0_30 h_v1 g_s0 q => t_Mo_nextTried_h7 N hN   gs0     n s0 v1 h_s0 h_s0_30 h_v1 g_s0 (by omega)) h_s0 h_s0_30 h_v1 g_s0 hm
theorem t_Mo_nextTried_b0 (N : Nat) (hN : 50000000 ≤ N) (s0 : zSt) (gs0 : zSt) (h_s0 : I_Mo s0) (h_s0_30 : (0 : Int) ≤ (zI s0 30).toInt ∧ (zI s0 30).toInt ≤ 8) (g_s0 : Fr [] [56] s0 gs0) : zok (Mo_nextTried_b0 N s0) (fun z => ((0 : Int) ≤ (z.1).toInt ∧ (z.1).toInt ≤ 1) ∧ I_Mo z.2 ∧ Fr [] [56] z.2 gs0) := by
  rw [Mo_nextTried_b0]
  have q1 : (0 : Int) ≤ ((zI s0 30)).toInt ∧ ((zI s0 30)).toInt ≤ 9 := (h_s0).1 30
  have q2 := li_1
  have q3 := tsub (zI s0 30) (1 : Int32) (by omega) (by omega)
  exact t_Mo_nextTried_h7 N hN   gs0    N _ _ h_s0 (show (0 : Int) ≤ ((zI s0 30)).toInt ∧ ((zI s0 30)).toInt ≤ 8 from ⟨by omega, by omega⟩) (show (-1 : Int) ≤ (((zI s0 30) - (1 : Int32))).toInt ∧ (((zI s0 30) - (1 : Int32))).toInt ≤ 7 from ⟨by omega, by omega⟩) g_s0 (show (((zI s0 30) - (1 : Int32))).toInt - (-2) ≤ (N : Int) from by omega)
theorem t_Mo_nextTried (N : Nat) (hN : 50000000 ≤ N) (s0 : zSt) (h_s0 : I_Mo s0) (h_s0_30 : (0 : Int) ≤ (zI s0 30).toInt ∧ (zI s0 30).toInt ≤ 8) : zok (Mo_nextTried N s0) (fun z => ((0 : Int) ≤ (z.1).toInt ∧ (z.1).toInt ≤ 1) ∧ I_Mo z.2 ∧ Fr [] [56] z.2 s0) :=
  t_Mo_nextTried_b0 N hN s0 s0 h_s0 h_s0_30 ⟨fun _ _ => rfl, fun _ _ => rfl⟩
theorem t_Mo_clearTried_b2 (N : Nat) (hN : 50000000 ≤ N) (kh2 : zSt → Int32 → Option (zSt)) (m2 : Int) (s0 : zSt) (v1 : Int32) (gs0 : zSt) (hkh2 : ∀ (s0 : zSt) (v1 : Int32), I_Mo s0 → (0 : Int) ≤ (zI s0 30).toInt ∧ (zI s0 30).toInt ≤ 8 → (0 : Int) ≤ (v1).toInt ∧ (v1).toInt ≤ 9 → Fr [] [56] s0 gs0 → 10 - (v1).toInt ≤ m2 - 1 → zok (kh2 s0 v1) (fun z => I_Mo z ∧ Fr [] [56] z gs0)) (h_s0 : I_Mo s0) (h_s0_30 : (0 : Int) ≤ (zI s0 30).toInt ∧ (zI s0 30).toInt ≤ 8) (h_v1 : (0 : Int) ≤ (v1).toInt ∧ (v1).toInt ≤ 9) (g_s0 : Fr [] [56] s0 gs0) (hm2 : 10 - (v1).toInt ≤ m2) : zok (Mo_clearTried_b2 N kh2 s0 v1) (fun z => I_Mo z ∧ Fr [] [56] z gs0) := by
  rw [Mo_clearTried_b2]
  have q2 := li_9
  refine zok_ite (fun c1 => ?_) (fun c1 => ?_)
  · have q3 : ((9 : Int32)).toInt ≤ (v1).toInt := tle c1
    exact zok_some ⟨h_s0, g_s0⟩
  · have q4 : ((9 : Int32)).toInt > (v1).toInt := tnle c1
    refine zok_ck (show vp_in v1 9 from vin (by omega) (by omega)) ?_
    have q5 := li_0
    have q6 : (0 : Int) ≤ ((zI s0 30)).toInt ∧ ((zI s0 30)).toInt ≤ 9 := (h_s0).1 30
    have q7 := li_1
    have q8 := tadd v1 (1 : Int32) (by omega) (by omega)
    exact hkh2 _ _ (IS.sA 56 (upd (zA s0 56) (Int32.toNatClampNeg v1) (0 : Int32)) h_s0 (show ∀ i, (0 : Int) ≤ ((upd (zA s0 56) (Int32.toNatClampNeg v1) (0 : Int32)) i).toInt ∧ ((upd (zA s0 56) (Int32.toNatClampNeg v1) (0 : Int32)) i).toInt ≤ 11 from (rgu (fun i => rgm ((h_s0).2 56 i) (by decide) (by decide)) ⟨by omega, by omega⟩))) (show (0 : Int) ≤ ((zI s0 30)).toInt ∧ ((zI s0 30)).toInt ≤ 8 from ⟨by omega, by omega⟩) (show (0 : Int) ≤ ((v1 + (1 : Int32))).toInt ∧ ((v1 + (1 : Int32))).toInt ≤ 9 from ⟨by omega, by omega⟩) (Fr.sA g_s0 rfl) (show 10 - ((v1 + (1 : Int32))).toInt ≤ m2 - 1 by omega)
theorem t_Mo_clearTried_h2 (N : Nat) (hN : 50000000 ≤ N) (gs0 : zSt) : ∀ (n : Nat) (s0 : zSt) (v1 : Int32), I_Mo s0 → (0 : Int) ≤ (zI s0 30).toInt ∧ (zI s0 30).toInt ≤ 8 → (0 : Int) ≤ (v1).toInt ∧ (v1).toInt ≤ 9 → Fr [] [56] s0 gs0 → 10 - (v1).toInt ≤ (n : Int) → zok (Mo_clearTried_h2 N  n s0 v1) (fun z => I_Mo z ∧ Fr [] [56] z gs0)
  | 0, s0, v1, h_s0, h_s0_30, h_v1, g_s0, hm => absurd hm (by omega)
  | n + 1, s0, v1, h_s0, h_s0_30, h_v1, g_s0, hm => by
    rw [Mo_clearTried_h2_s]
    exact t_Mo_clearTried_b2 N hN (Mo_clearTried_h2 N  n) ((n + 1 : Nat) : Int) s0 v1 gs0 (fun s0 v1 h_s0 h_s0_30 h_v1 g_s0 q => t_Mo_clearTried_h2 N hN   gs0     n s0 v1 h_s0 h_s0_30 h_v1 g_s0 (by omega)) h_s0 h_s0_30 h_v1 g_s0 hm
theorem t_Mo_clearTried_b0 (N : Nat) (hN : 50000000 ≤ N) (s0 : zSt) (gs0 : zSt) (h_s0 : I_Mo s0) (h_s0_30 : (0 : Int) ≤ (zI s0 30).toInt ∧ (zI s0 30).toInt ≤ 8) (g_s0 : Fr [] [56] s0 gs0) : zok (Mo_clearTried_b0 N s0) (fun z => I_Mo z ∧ Fr [] [56] z gs0) := by
  rw [Mo_clearTried_b0]
  have q1 : (0 : Int) ≤ ((zI s0 30)).toInt ∧ ((zI s0 30)).toInt ≤ 9 := (h_s0).1 30
  have q2 := li_0
  exact t_Mo_clearTried_h2 N hN   gs0    N _ _ h_s0 (show (0 : Int) ≤ ((zI s0 30)).toInt ∧ ((zI s0 30)).toInt ≤ 8 from ⟨by omega, by omega⟩) (show (0 : Int) ≤ ((0 : Int32)).toInt ∧ ((0 : Int32)).toInt ≤ 9 from ⟨by omega, by omega⟩) g_s0 (show 10 - ((0 : Int32)).toInt ≤ (N : Int) from by omega)
theorem t_Mo_clearTried (N : Nat) (hN : 50000000 ≤ N) (s0 : zSt) (h_s0 : I_Mo s0) (h_s0_30 : (0 : Int) ≤ (zI s0 30).toInt ∧ (zI s0 30).toInt ≤ 8) : zok (Mo_clearTried N s0) (fun z => I_Mo z ∧ Fr [] [56] z s0) :=
  t_Mo_clearTried_b0 N hN s0 s0 h_s0 h_s0_30 ⟨fun _ _ => rfl, fun _ _ => rfl⟩
theorem t_Mo_triedSum_b4 (N : Nat) (hN : 50000000 ≤ N) (kh4 : Int32 → Int32 → Option (Int32)) (m4 : Int) (s0 : zSt) (v1 : Int32) (v2 : Int32) (hkh4 : ∀ (v1 : Int32) (v2 : Int32), (0 : Int) ≤ (v2).toInt ∧ (v2).toInt ≤ 8 → 9 - (v2).toInt ≤ m4 - 1 → zok (kh4 v1 v2) (fun z => True)) (h_s0 : I_Mo s0) (h_s0_30 : (0 : Int) ≤ (zI s0 30).toInt ∧ (zI s0 30).toInt ≤ 8) (h_v2 : (0 : Int) ≤ (v2).toInt ∧ (v2).toInt ≤ 8) (hm4 : 9 - (v2).toInt ≤ m4) : zok (Mo_triedSum_b4 N kh4 s0 v1 v2) (fun z => True) := by
  rw [Mo_triedSum_b4]
  have q2 : (0 : Int) ≤ ((zI s0 30)).toInt ∧ ((zI s0 30)).toInt ≤ 9 := (h_s0).1 30
  refine zok_ite (fun c1 => ?_) (fun c1 => ?_)
  · have q3 : ((zI s0 30)).toInt ≤ (v2).toInt := tle c1
    exact zok_some trivial
  · have q4 : ((zI s0 30)).toInt > (v2).toInt := tnle c1
    refine zok_ck (show vp_in v2 9 from vin (by omega) (by omega)) ?_
    have q5 := li_1
    have q6 := tadd v2 (1 : Int32) (by omega) (by omega)
    exact hkh4 _ _ (show (0 : Int) ≤ ((v2 + (1 : Int32))).toInt ∧ ((v2 + (1 : Int32))).toInt ≤ 8 from ⟨by omega, by omega⟩) (show 9 - ((v2 + (1 : Int32))).toInt ≤ m4 - 1 by omega)
theorem t_Mo_triedSum_h4 (N : Nat) (hN : 50000000 ≤ N) (s0 : zSt) (h_s0 : I_Mo s0) (h_s0_30 : (0 : Int) ≤ (zI s0 30).toInt ∧ (zI s0 30).toInt ≤ 8) : ∀ (n : Nat) (v1 : Int32) (v2 : Int32), (0 : Int) ≤ (v2).toInt ∧ (v2).toInt ≤ 8 → 9 - (v2).toInt ≤ (n : Int) → zok (Mo_triedSum_h4 N s0 n v1 v2) (fun z => True)
  | 0, v1, v2, h_v2, hm => absurd hm (by omega)
  | n + 1, v1, v2, h_v2, hm => by
    rw [Mo_triedSum_h4_s]
    exact t_Mo_triedSum_b4 N hN (Mo_triedSum_h4 N s0 n) ((n + 1 : Nat) : Int) s0 v1 v2  (fun v1 v2 h_v2 q => t_Mo_triedSum_h4 N hN  s0   h_s0 h_s0_30   n v1 v2 h_v2 (by omega)) h_s0 h_s0_30 h_v2  hm
theorem t_Mo_triedSum_b0 (N : Nat) (hN : 50000000 ≤ N) (s0 : zSt) (h_s0 : I_Mo s0) (h_s0_30 : (0 : Int) ≤ (zI s0 30).toInt ∧ (zI s0 30).toInt ≤ 8) : zok (Mo_triedSum_b0 N s0) (fun z => True) := by
  rw [Mo_triedSum_b0]
  have q1 : (0 : Int) ≤ ((zI s0 30)).toInt ∧ ((zI s0 30)).toInt ≤ 9 := (h_s0).1 30
  have q2 := li_0
  exact t_Mo_triedSum_h4 N hN  _   h_s0 (show (0 : Int) ≤ ((zI s0 30)).toInt ∧ ((zI s0 30)).toInt ≤ 8 from ⟨by omega, by omega⟩)  N _ _ (show (0 : Int) ≤ ((0 : Int32)).toInt ∧ ((0 : Int32)).toInt ≤ 8 from ⟨by omega, by omega⟩) (show 9 - ((0 : Int32)).toInt ≤ (N : Int) from by omega)
theorem t_Mo_triedSum (N : Nat) (hN : 50000000 ≤ N) (s0 : zSt) (h_s0 : I_Mo s0) (h_s0_30 : (0 : Int) ≤ (zI s0 30).toInt ∧ (zI s0 30).toInt ≤ 8) : zok (Mo_triedSum N s0) (fun z => True) :=
  t_Mo_triedSum_b0 N hN s0  h_s0 h_s0_30 
theorem t_Mo_putDown_b2 (N : Nat) (hN : 50000000 ≤ N) (kh2 : zSt → Int32 → Option (zSt)) (m2 : Int) (s0 : zSt) (v1 : Int32) (gs0 : zSt) (hkh2 : ∀ (s0 : zSt) (v1 : Int32), I_Mo s0 → (0 : Int) ≤ (zI s0 30).toInt ∧ (zI s0 30).toInt ≤ 8 → (0 : Int) ≤ (v1).toInt ∧ (v1).toInt ≤ 9 → Fr [58] [57] s0 gs0 → 10 - (v1).toInt ≤ m2 - 1 → zok (kh2 s0 v1) (fun z => I_Mo z ∧ Fr [58] [57] z gs0)) (h_s0 : I_Mo s0) (h_s0_30 : (0 : Int) ≤ (zI s0 30).toInt ∧ (zI s0 30).toInt ≤ 8) (h_v1 : (0 : Int) ≤ (v1).toInt ∧ (v1).toInt ≤ 9) (g_s0 : Fr [58] [57] s0 gs0) (hm2 : 10 - (v1).toInt ≤ m2) : zok (Mo_putDown_b2 N kh2 s0 v1) (fun z => I_Mo z ∧ Fr [58] [57] z gs0) := by
  rw [Mo_putDown_b2]
  have q2 := li_9
  refine zok_ite (fun c1 => ?_) (fun c1 => ?_)
  · have q3 : ((9 : Int32)).toInt ≤ (v1).toInt := tle c1
    have q4 : (0 : Int) ≤ ((zI s0 30)).toInt ∧ ((zI s0 30)).toInt ≤ 9 := (h_s0).1 30
    exact zok_some ⟨(IS.pI 58 (zI s0 30) h_s0 (show (0 : Int) ≤ ((zI s0 30)).toInt ∧ ((zI s0 30)).toInt ≤ 9 from ⟨by omega, by omega⟩)), (Fr.pI g_s0 rfl)⟩
  · have q5 : ((9 : Int32)).toInt > (v1).toInt := tnle c1
    refine zok_ck (show vp_in v1 9 from vin (by omega) (by omega)) ?_
    refine zok_ck (show vp_in v1 9 from vin (by omega) (by omega)) ?_
    have q6 : (0 : Int) ≤ ((zI s0 30)).toInt ∧ ((zI s0 30)).toInt ≤ 9 := (h_s0).1 30
    have q7 := li_1
    have q8 := tadd v1 (1 : Int32) (by omega) (by omega)
    exact hkh2 _ _ (IS.sA 57 (upd (zA s0 57) (Int32.toNatClampNeg v1) ((zA s0 56) (Int32.toNatClampNeg v1))) h_s0 (fun _ => tr _)) (show (0 : Int) ≤ ((zI s0 30)).toInt ∧ ((zI s0 30)).toInt ≤ 8 from ⟨by omega, by omega⟩) (show (0 : Int) ≤ ((v1 + (1 : Int32))).toInt ∧ ((v1 + (1 : Int32))).toInt ≤ 9 from ⟨by omega, by omega⟩) (Fr.sA g_s0 rfl) (show 10 - ((v1 + (1 : Int32))).toInt ≤ m2 - 1 by omega)
theorem t_Mo_putDown_h2 (N : Nat) (hN : 50000000 ≤ N) (gs0 : zSt) : ∀ (n : Nat) (s0 : zSt) (v1 : Int32), I_Mo s0 → (0 : Int) ≤ (zI s0 30).toInt ∧ (zI s0 30).toInt ≤ 8 → (0 : Int) ≤ (v1).toInt ∧ (v1).toInt ≤ 9 → Fr [58] [57] s0 gs0 → 10 - (v1).toInt ≤ (n : Int) → zok (Mo_putDown_h2 N  n s0 v1) (fun z => I_Mo z ∧ Fr [58] [57] z gs0)
  | 0, s0, v1, h_s0, h_s0_30, h_v1, g_s0, hm => absurd hm (by omega)
  | n + 1, s0, v1, h_s0, h_s0_30, h_v1, g_s0, hm => by
    rw [Mo_putDown_h2_s]
    exact t_Mo_putDown_b2 N hN (Mo_putDown_h2 N  n) ((n + 1 : Nat) : Int) s0 v1 gs0 (fun s0 v1 h_s0 h_s0_30 h_v1 g_s0 q => t_Mo_putDown_h2 N hN   gs0     n s0 v1 h_s0 h_s0_30 h_v1 g_s0 (by omega)) h_s0 h_s0_30 h_v1 g_s0 hm
theorem t_Mo_putDown_b0 (N : Nat) (hN : 50000000 ≤ N) (s0 : zSt) (gs0 : zSt) (h_s0 : I_Mo s0) (h_s0_30 : (0 : Int) ≤ (zI s0 30).toInt ∧ (zI s0 30).toInt ≤ 8) (g_s0 : Fr [58] [57] s0 gs0) : zok (Mo_putDown_b0 N s0) (fun z => I_Mo z ∧ Fr [58] [57] z gs0) := by
  rw [Mo_putDown_b0]
  have q1 : (0 : Int) ≤ ((zI s0 30)).toInt ∧ ((zI s0 30)).toInt ≤ 9 := (h_s0).1 30
  have q2 := li_0
  exact t_Mo_putDown_h2 N hN   gs0    N _ _ h_s0 (show (0 : Int) ≤ ((zI s0 30)).toInt ∧ ((zI s0 30)).toInt ≤ 8 from ⟨by omega, by omega⟩) (show (0 : Int) ≤ ((0 : Int32)).toInt ∧ ((0 : Int32)).toInt ≤ 9 from ⟨by omega, by omega⟩) g_s0 (show 10 - ((0 : Int32)).toInt ≤ (N : Int) from by omega)
theorem t_Mo_putDown (N : Nat) (hN : 50000000 ≤ N) (s0 : zSt) (h_s0 : I_Mo s0) (h_s0_30 : (0 : Int) ≤ (zI s0 30).toInt ∧ (zI s0 30).toInt ≤ 8) : zok (Mo_putDown N s0) (fun z => I_Mo z ∧ Fr [58] [57] z s0) :=
  t_Mo_putDown_b0 N hN s0 s0 h_s0 h_s0_30 ⟨fun _ _ => rfl, fun _ _ => rfl⟩
/-- a row of digits as a number -/
def vl (B : Nat) (f : Nat → Nat) : Nat → Nat
  | 0 => 0
  | m + 1 => vl B f m * B + f m
theorem vl_same {B : Nat} {f g : Nat → Nat} : ∀ m, (∀ i, i < m → g i = f i) → vl B g m = vl B f m := by
  intro m
  induction m with
  | zero => intro _; rfl
  | succ m ih => intro h; show vl B g m * B + g m = vl B f m * B + f m; rw [ih (fun i hi => h i (by omega)), h m (by omega)]
theorem vl_lt {B : Nat} {f : Nat → Nat} : ∀ m, (∀ i, i < m → f i < B) → vl B f m < B ^ m := by
  intro m
  induction m with
  | zero => intro _; show 0 < 1; decide
  | succ m ih =>
    intro h
    have h1 := ih (fun i hi => h i (by omega))
    have h2 := h m (by omega)
    show vl B f m * B + f m < B ^ (m + 1)
    rw [Nat.pow_succ]
    have : (vl B f m + 1) * B ≤ B ^ m * B := Nat.mul_le_mul_right B h1
    rw [Nat.add_mul] at this
    omega
theorem vl_up {B : Nat} {f g : Nat → Nat} {j : Nat} : ∀ m, j < m → (∀ i, i < j → g i = f i) → g j = f j + 1 → (∀ i, i < m → f i < B) → vl B f m + 1 ≤ vl B g m := by
  intro m
  induction m with
  | zero => intro h; exact absurd h (by omega)
  | succ m ih =>
    intro hj h1 h2 h3
    show vl B f m * B + f m + 1 ≤ vl B g m * B + g m
    by_cases e : j = m
    · subst e
      rw [vl_same _ h1, h2]
      omega
    · have h4 := ih (by omega) h1 h2 (fun i hi => h3 i (by omega))
      have h5 := h3 m (by omega)
      have : (vl B f m + 1) * B ≤ vl B g m * B := Nat.mul_le_mul_right B h4
      rw [Nat.add_mul] at this
      omega
theorem nI_m1 (p : Nat) : nI p + (-1) = nI p - 1 := by rw [Int32.sub_eq_add_neg]
theorem nI_p1 (p : Nat) (h : p < 1000) : nI (p + 1) - 1 = nI p := nI_subI (a := p + 1) (b := 1) (by omega) (by omega)
theorem nTried_ok {N : Nat} : ∀ (p k : Nat) (s : zSt) (t : Nat → Nat), p ≤ 9 → p < k → (∀ i, i < p → zA s 56 i = nI (t i) ∧ t i ≤ 2) → zok (Mo_nextTried_h7 N k s (nI p - 1)) (fun z => z.1 = 0 ∨ (z.1 = 1 ∧ ∃ j, j < p ∧ t j ≤ 1 ∧ ∀ i, zA z.2 56 i = if i = j then nI (t j + 1) else if j < i ∧ i < p then 0 else zA s 56 i)) := by
  intro p
  induction p with
  | zero =>
    intro k s t _ hk _
    obtain ⟨k', rfl⟩ : ∃ k', k = k' + 1 := ⟨k - 1, by omega⟩
    rw [Mo_nextTried_h7_s]
    unfold Mo_nextTried_b7
    rw [if_pos (by decide)]
    exact zok_some (Or.inl rfl)
  | succ p ih =>
    intro k s t hp hk ht
    obtain ⟨k', rfl⟩ : ∃ k', k = k' + 1 := ⟨k - 1, by omega⟩
    obtain ⟨e, l⟩ := ht p (by omega)
    rw [Mo_nextTried_h7_s, nI_p1 p (by omega)]
    unfold Mo_nextTried_b7
    rw [if_neg (nI_pos (by omega)), nI_clamp (by omega), zck_in (vp_in_nI (by omega) (by decide)), e]
    by_cases q : t p = 2
    · rw [if_pos ((zleR (k := 2) (by omega) (by decide)).mpr (by omega)), zck_in (vp_in_nI (by omega) (by decide)), nI_m1]
      refine zok_mono (ih k' (zsA s 56 (upd (zA s 56) p 0)) t (by omega) (by omega) (fun i hi => ?_)) (fun z hz => ?_)
      · obtain ⟨e1, l1⟩ := ht i (by omega)
        refine ⟨?_, l1⟩
        rw [zA_sA, if_pos rfl]
        unfold upd
        rw [if_neg (by omega)]
        exact e1
      · rcases hz with hz | ⟨hz, j, h1, h2, h3⟩
        · exact Or.inl hz
        · refine Or.inr ⟨hz, j, by omega, h2, fun i => ?_⟩
          rw [h3 i, zA_sA, if_pos rfl]
          unfold upd
          by_cases a : i = j
          · rw [if_pos a, if_pos a]
          · rw [if_neg a, if_neg a]
            by_cases b : j < i ∧ i < p
            · rw [if_pos b, if_pos (by omega)]
            · rw [if_neg b]
              by_cases c : i = p
              · rw [if_pos c, if_pos (by omega)]
              · rw [if_neg c, if_neg (by omega)]
    · rw [if_neg (fun r => absurd ((zleR (k := 2) (by omega) (by decide)).mp r) (by omega)), zck_in (vp_in_nI (by omega) (by decide)), zck_in (vp_in_nI (by omega) (by decide)), nI_1]
      refine zok_some (Or.inr ⟨rfl, p, by omega, by omega, fun i => ?_⟩)
      rw [zA_sA, if_pos rfl]
      unfold upd
      by_cases a : i = p
      · rw [if_pos a, if_pos a]
      · rw [if_neg a, if_neg a, if_neg (by omega)]
theorem clear_z {N : Nat} : ∀ (k i : Nat) (s : zSt), i ≤ 9 → 9 - i < k → zok (Mo_clearTried_h2 N k s (nI i)) (fun z => ∀ j, j < 9 → zA z 56 j = if i ≤ j then 0 else zA s 56 j) := by
  intro k
  induction k with
  | zero => intro i s _ h; exact absurd h (by omega)
  | succ k ih =>
    intro i s hi hk
    rw [Mo_clearTried_h2_s]
    unfold Mo_clearTried_b2
    by_cases e : i = 9
    · subst e
      rw [if_pos (by decide)]
      exact zok_some (fun j hj => by rw [if_neg (by omega)])
    · rw [if_neg (fun r => absurd ((zleR (k := 9) (by omega) (by decide)).mp r) (by omega)), zck_in (vp_in_nI (by omega) (by decide)), nI_clamp (by omega), nI_1]
      refine zok_mono (ih (i + 1) _ (by omega) (by omega)) (fun z hz j hj => ?_)
      rw [hz j hj, zA_sA, if_pos rfl]
      unfold upd
      by_cases a : j = i
      · rw [if_neg (by omega), if_pos a, if_pos (by omega)]
      · by_cases b : i ≤ j
        · rw [if_pos (by omega), if_pos b]
        · rw [if_neg (by omega), if_neg b, if_neg a]
theorem clear_ok {N : Nat} (hN : 50000000 ≤ N) {s : zSt} (hs : I_Mo s) (h30 : (0 : Int) ≤ (zI s 30).toInt ∧ (zI s 30).toInt ≤ 8) : zok (Mo_clearTried N s) (fun z => (I_Mo z ∧ Fr [] [56] z s) ∧ ∀ j, j < 9 → zA z 56 j = 0) := by
  refine zok_and (t_Mo_clearTried N hN s hs h30) ?_
  unfold Mo_clearTried Mo_clearTried_b0
  exact zok_mono (clear_z N 0 s (by omega) (by omega)) (fun z hz j hj => by rw [hz j hj, if_pos (by omega)])
/-- the digits of the tries -/
def Dg (s : zSt) (m : Nat) (t : Nat → Nat) (B : Nat → Nat) : Prop := ∀ i, i < m → zA s 56 i = nI (t i) ∧ t i ≤ B i
theorem nTried_next {N : Nat} (hN : 50000000 ≤ N) {m : Nat} (hm : m ≤ 8) {s : zSt} {t : Nat → Nat} (hs : I_Mo s) (h30 : zI s 30 = nI m) (ht : Dg s m t (fun _ => 2)) :
    zok (Mo_nextTried N s) (fun z => (((0 : Int) ≤ (z.1).toInt ∧ (z.1).toInt ≤ 1) ∧ I_Mo z.2 ∧ Fr [] [56] z.2 s) ∧ (z.1 = 0 ∨ (z.1 = 1 ∧ ∃ g, Dg z.2 m g (fun _ => 2) ∧ vl 3 t m + 1 ≤ vl 3 g m))) := by
  have h3 := nI_toInt (n := m) (by omega)
  refine zok_and (t_Mo_nextTried N hN s hs (by rw [h30]; omega)) ?_
  unfold Mo_nextTried Mo_nextTried_b0
  rw [h30]
  refine zok_mono (nTried_ok m N s t (by omega) (by omega) ht) (fun z hz => ?_)
  rcases hz with hz | ⟨hz, j, h1, h2, h3⟩
  · exact Or.inl hz
  · refine Or.inr ⟨hz, fun i => if i = j then t j + 1 else if j < i then 0 else t i, fun i hi => ?_, vl_up m h1 (fun i hi => ?_) ?_ (fun i hi => ?_)⟩
    · show zA z.2 56 i = nI (if i = j then t j + 1 else if j < i then 0 else t i) ∧ (if i = j then t j + 1 else if j < i then 0 else t i) ≤ 2
      rw [h3 i]
      by_cases a : i = j
      · rw [if_pos a, if_pos a]; exact ⟨rfl, by omega⟩
      · rw [if_neg a, if_neg a]
        by_cases b : j < i
        · rw [if_pos (And.intro b hi), if_pos b]; exact ⟨rfl, by omega⟩
        · rw [if_neg (by omega), if_neg b]; exact ht i hi
    · show (if i = j then t j + 1 else if j < i then 0 else t i) = t i
      rw [if_neg (by omega), if_neg (by omega)]
    · show (if j = j then t j + 1 else if j < j then 0 else t j) = t j + 1
      rw [if_pos rfl]
    · have : t i ≤ 2 := (ht i hi).2; omega
theorem crk_loop {N : Nat} (hN : 50000000 ≤ N) {m : Nat} (hm : m ≤ 8) (g : zSt) (v1 : Int32) : ∀ (n : Nat) (s : zSt) (v2 v3 : Int32) (t : Nat → Nat), I_Mo s → Fr [58] [56, 57] s g → zI s 30 = nI m → Dg s m t (fun _ => 2) → (v3 = 0 ∧ 1 ≤ n ∨ 3 ^ m + 1 ≤ n + vl 3 t m) → zok (Mo_cracked_h25 N v1 n s v2 v3) (fun z => True ∧ I_Mo z.2 ∧ Fr [58] [56, 57] z.2 g) := by
  intro n
  induction n with
  | zero =>
    intro s v2 v3 t hs hf h30 ht hn
    have := vl_lt (B := 3) (f := t) m (fun i hi => by have : t i ≤ 2 := (ht i hi).2; omega)
    exact absurd hn (by omega)
  | succ n ih =>
    intro s v2 v3 t hs hf h30 ht hn
    have hv := vl_lt (B := 3) (f := t) m (fun i hi => by have : t i ≤ 2 := (ht i hi).2; omega)
    have h3 := nI_toInt (n := m) (by omega)
    have h8 : (0 : Int) ≤ (zI s 30).toInt ∧ (zI s 30).toInt ≤ 8 := by rw [h30]; omega
    have b64 : ∀ (s : zSt) (v2 : Int32), ¬ v3 = 0 → I_Mo s → Fr [58] [56, 57] s g → zI s 30 = nI m → Dg s m t (fun _ => 2) → zok (Mo_cracked_b64 N (Mo_cracked_h25 N v1 n) s v1 v2) (fun z => True ∧ I_Mo z.2 ∧ Fr [58] [56, 57] z.2 g) := by
      intro s v2 h0 hs hf h30 ht
      unfold Mo_cracked_b64
      refine zok_bind (nTried_next hN hm hs h30 ht) (fun z1 hz => ?_)
      obtain ⟨⟨_, z2, z3⟩, z4⟩ := hz
      have hI : I_Mo (zmg [16, 21, 39, 40, 42, 45, 46, 57] z1.2 s) := IS.mg _ z2 hs
      have hF : Fr [58] [56, 57] (zmg [16, 21, 39, 40, 42, 45, 46, 57] z1.2 s) g := Fr.mg (Fr.tr z3 hf rfl rfl) hf
      have h3' : zI (zmg [16, 21, 39, 40, 42, 45, 46, 57] z1.2 s) 30 = nI m := by show zI z1.2 30 = _; rw [z3.1 30 rfl]; exact h30
      rcases z4 with z4 | ⟨z4, q, q1, q2⟩
      · rw [z4]
        obtain ⟨n', rfl⟩ : ∃ n', n = n' + 1 := ⟨n - 1, by rcases hn with hn | hn <;> first | exact absurd hn.1 h0 | omega⟩
        rw [Mo_cracked_h25_s]
        unfold Mo_cracked_b25
        rw [if_pos rfl]
        exact zok_some ⟨trivial, hI, hF⟩
      · rw [z4]
        refine ih _ v2 1 q hI hF h3' (fun i hi => q1 i hi) (Or.inr ?_)
        rcases hn with hn | hn
        · exact absurd hn.1 h0
        · omega
    have b55 : ¬ v3 = 0 → zok (Mo_cracked_b55 N (Mo_cracked_h25 N v1 n) s v1) (fun z => True ∧ I_Mo z.2 ∧ Fr [58] [56, 57] z.2 g) := by
      intro h0
      unfold Mo_cracked_b55
      refine zok_bind (t_Mo_triedSum N hN s hs h8) (fun z1 _ => ?_)
      refine zok_bind (t_Mo_putDown N hN s hs h8) (fun z3 hz => ?_)
      refine b64 _ _ h0 (IS.mg _ hz.1 hs) (Fr.mg (Fr.tr hz.2 hf rfl rfl) hf) ?_ (fun i hi => ?_)
      · show zI z3 30 = _; rw [hz.2.1 30 rfl]; exact h30
      · rw [zA_mg, if_neg (by decide), hz.2.2 56 rfl]; exact ht i hi
    have h47 : (0 : Int) ≤ (zI s 47).toInt ∧ (zI s 47).toInt ≤ 40 := hs.1 47
    have e1 : (1 : Int32).toInt = 1 := by decide
    have hsub := tsub (zI s 47) 1 (by omega) (by omega)
    rw [Mo_cracked_h25_s]
    unfold Mo_cracked_b25
    refine zok_ite (fun _ => zok_some ⟨trivial, hs, hf⟩) (fun h0 => ?_)
    refine zok_bind (t_Mo_areEvenings N hN s v1 (zI s 47 - 1) hs h8 (by omega)) (fun z2 _ => ?_)
    refine zok_ite (fun _ => b64 s v2 h0 hs hf h30 ht) (fun _ => ?_)
    refine zok_ite (fun _ => b55 h0) (fun _ => ?_)
    refine zok_bind (t_Mo_triedSum N hN s hs h8) (fun z6 _ => ?_)
    exact zok_ite (fun _ => b64 s v2 h0 hs hf h30 ht) (fun _ => b55 h0)
theorem pow3_8 {m : Nat} (hm : m ≤ 8) : 3 ^ m ≤ 6561 := Nat.le_trans (Nat.pow_le_pow_right (by decide) hm) (by decide)
theorem t_Mo_cracked (N : Nat) (hN : 50000000 ≤ N) (s0 : zSt) (v1 : Int32) (h_s0 : I_Mo s0) : zok (Mo_cracked N s0 v1) (fun z => True ∧ I_Mo z.2 ∧ Fr [58] [56, 57] z.2 s0) := by
  have e0 : (0 : Int32).toInt = 0 := by decide
  have e8 : (8 : Int32).toInt = 8 := by decide
  have hz : I_Mo (zpI s0 58 0) := IS.pI 58 0 h_s0 (show (0 : Int) ≤ (0 : Int32).toInt ∧ (0 : Int32).toInt ≤ 9 by omega)
  have h30 : (0 : Int) ≤ (zI s0 30).toInt ∧ (zI s0 30).toInt ≤ 9 := h_s0.1 30
  unfold Mo_cracked Mo_cracked_b0
  refine zok_ite (fun q => ?_) (fun _ => zok_some ⟨trivial, hz, Fr.pI Fr.rf rfl⟩)
  have q := tle q
  obtain ⟨m, em, lm, _⟩ := i_nat h30.1 (show (zI s0 30).toInt ≤ 8 by omega)
  refine zok_bind (clear_ok hN hz (show (0 : Int) ≤ (zI s0 30).toInt ∧ (zI s0 30).toInt ≤ 8 by omega)) (fun z2 hz2 => ?_)
  obtain ⟨⟨a1, a2⟩, a3⟩ := hz2
  have hp := pow3_8 (m := m) (by omega)
  refine crk_loop hN (m := m) (by omega) s0 v1 N _ (-1) 1 (fun _ => 0) (IS.mg _ a1 hz) (Fr.mg (Fr.tr a2 (Fr.pI Fr.rf rfl) rfl rfl) (Fr.pI Fr.rf rfl)) ?_ (fun i hi => ?_) (Or.inr (by omega))
  · show zI z2 30 = _; rw [a2.1 30 rfl]; exact em
  · rw [zA_mg, if_neg (by decide), a3 i (by omega)]; exact ⟨rfl, Nat.zero_le _⟩
theorem cb_loop {N : Nat} (hN : 50000000 ≤ N) {m : Nat} (hm : m ≤ 8) (g : zSt) (v1 v2 : Int32) (hv2 : (0 : Int) ≤ (v2).toInt ∧ (v2).toInt ≤ 39) : ∀ (n : Nat) (s : zSt) (v3 : Int32) (t : Nat → Nat), I_Mo s → Fr [] [56] s g → zI s 30 = nI m → Dg s m t (fun _ => 2) → (v3 = 0 ∧ 1 ≤ n ∨ 3 ^ m + 1 ≤ n + vl 3 t m) → zok (Mo_canBe_h6 N v1 v2 n s v3) (fun z => ((0 : Int) ≤ (z.1).toInt ∧ (z.1).toInt ≤ 1) ∧ I_Mo z.2 ∧ Fr [] [56] z.2 g) := by
  intro n
  have e0 : (0 : Int32).toInt = 0 := by decide
  have e1 : (1 : Int32).toInt = 1 := by decide
  induction n with
  | zero =>
    intro s v3 t hs hf h30 ht hn
    have := vl_lt (B := 3) (f := t) m (fun i hi => by have : t i ≤ 2 := (ht i hi).2; omega)
    exact absurd hn (by omega)
  | succ n ih =>
    intro s v3 t hs hf h30 ht hn
    have hv := vl_lt (B := 3) (f := t) m (fun i hi => by have : t i ≤ 2 := (ht i hi).2; omega)
    have h3 := nI_toInt (n := m) (by omega)
    have h8 : (0 : Int) ≤ (zI s 30).toInt ∧ (zI s 30).toInt ≤ 8 := by rw [h30]; omega
    rw [Mo_canBe_h6_s]
    unfold Mo_canBe_b6
    refine zok_ite (fun _ => zok_some ⟨show (0 : Int) ≤ (0 : Int32).toInt ∧ (0 : Int32).toInt ≤ 1 by omega, hs, hf⟩) (fun h0 => ?_)
    refine zok_bind (t_Mo_areEvenings N hN s v1 v2 hs h8 (by omega)) (fun z2 _ => ?_)
    refine zok_ite (fun _ => ?_) (fun _ => zok_some ⟨show (0 : Int) ≤ (1 : Int32).toInt ∧ (1 : Int32).toInt ≤ 1 by omega, hs, hf⟩)
    refine zok_bind (nTried_next hN hm hs h30 ht) (fun z1 hz => ?_)
    obtain ⟨⟨_, z2, z3⟩, z4⟩ := hz
    have hI : I_Mo (zmg [16, 21, 39, 40, 42, 45, 46] z1.2 s) := IS.mg _ z2 hs
    have hF : Fr [] [56] (zmg [16, 21, 39, 40, 42, 45, 46] z1.2 s) g := Fr.mg (Fr.tr z3 hf rfl rfl) hf
    have h3' : zI (zmg [16, 21, 39, 40, 42, 45, 46] z1.2 s) 30 = nI m := by show zI z1.2 30 = _; rw [z3.1 30 rfl]; exact h30
    rcases z4 with z4 | ⟨z4, q, q1, q2⟩
    · rw [z4]
      obtain ⟨n', rfl⟩ : ∃ n', n = n' + 1 := ⟨n - 1, by rcases hn with hn | hn <;> first | exact absurd hn.1 h0 | omega⟩
      rw [Mo_canBe_h6_s]
      unfold Mo_canBe_b6
      rw [if_pos rfl]
      exact zok_some ⟨show (0 : Int) ≤ (0 : Int32).toInt ∧ (0 : Int32).toInt ≤ 1 by omega, hI, hF⟩
    · rw [z4]
      refine ih _ 1 q hI hF h3' (fun i hi => q1 i hi) (Or.inr ?_)
      rcases hn with hn | hn
      · exact absurd hn.1 h0
      · omega
theorem t_Mo_canBe (N : Nat) (hN : 50000000 ≤ N) (s0 : zSt) (v1 : Int32) (v2 : Int32) (h_s0 : I_Mo s0) (h_s0_30 : (0 : Int) ≤ (zI s0 30).toInt ∧ (zI s0 30).toInt ≤ 8) (h_s0_47 : (1 : Int) ≤ (zI s0 47).toInt ∧ (zI s0 47).toInt ≤ 40) (h_v2 : (0 : Int) ≤ (v2).toInt ∧ (v2).toInt ≤ 39) : zok (Mo_canBe N s0 v1 v2) (fun z => ((0 : Int) ≤ (z.1).toInt ∧ (z.1).toInt ≤ 1) ∧ I_Mo z.2 ∧ Fr [] [56] z.2 s0) := by
  obtain ⟨m, em, lm, _⟩ := i_nat h_s0_30.1 h_s0_30.2
  unfold Mo_canBe Mo_canBe_b0
  refine zok_bind (clear_ok hN h_s0 h_s0_30) (fun z2 hz2 => ?_)
  obtain ⟨⟨a1, a2⟩, a3⟩ := hz2
  have hp := pow3_8 (m := m) (by omega)
  refine cb_loop hN (m := m) (by omega) s0 v1 v2 h_v2 N _ 1 (fun _ => 0) (IS.mg _ a1 h_s0) (Fr.mg (Fr.tr a2 Fr.rf rfl rfl) Fr.rf) ?_ (fun i hi => ?_) (Or.inr (by omega))
  · show zI z2 30 = _; rw [a2.1 30 rfl]; exact em
  · rw [zA_mg, if_neg (by decide), a3 i (by omega)]; exact ⟨rfl, Nat.zero_le _⟩
theorem t_Mo_first_b43 (N : Nat) (hN : 50000000 ≤ N) (kh14 : zSt → Int32 → Option (Int32 × zSt)) (m14 : Int) (s0 : zSt) (v1 : Int32) (v2 : Int32) (gs0 : zSt) (hkh14 : ∀ (s0 : zSt) (v2 : Int32), I_Mo s0 → (0 : Int) ≤ (zI s0 30).toInt ∧ (zI s0 30).toInt ≤ 8 → (0 : Int) ≤ (v2).toInt ∧ (v2).toInt ≤ 40 → Fr [] [56] s0 gs0 → 41 - (v2).toInt ≤ m14 - 1 → zok (kh14 s0 v2) (fun z => ((-2 : Int) ≤ (z.1).toInt ∧ (z.1).toInt ≤ 39) ∧ I_Mo z.2 ∧ Fr [] [56] z.2 gs0)) (h_s0 : I_Mo s0) (h_s0_30 : (0 : Int) ≤ (zI s0 30).toInt ∧ (zI s0 30).toInt ≤ 8) (h_s0_47 : (1 : Int) ≤ (zI s0 47).toInt ∧ (zI s0 47).toInt ≤ 40) (h_v2 : (0 : Int) ≤ (v2).toInt ∧ (v2).toInt ≤ 39) (g_s0 : Fr [] [56] s0 gs0) (hm14 : 41 - (v2).toInt ≤ m14) : zok (Mo_first_b43 N kh14 s0 v1 v2) (fun z => ((-2 : Int) ≤ (z.1).toInt ∧ (z.1).toInt ≤ 39) ∧ I_Mo z.2 ∧ Fr [] [56] z.2 gs0) := by
  rw [Mo_first_b43]
  have q1 : (0 : Int) ≤ ((zI s0 30)).toInt ∧ ((zI s0 30)).toInt ≤ 9 := (h_s0).1 30
  have q2 := li_1
  have q3 := tadd v2 (1 : Int32) (by omega) (by omega)
  exact hkh14 _ _ h_s0 (show (0 : Int) ≤ ((zI s0 30)).toInt ∧ ((zI s0 30)).toInt ≤ 8 from ⟨by omega, by omega⟩) (show (0 : Int) ≤ ((v2 + (1 : Int32))).toInt ∧ ((v2 + (1 : Int32))).toInt ≤ 40 from ⟨by omega, by omega⟩) g_s0 (show 41 - ((v2 + (1 : Int32))).toInt ≤ m14 - 1 by omega)
theorem t_Mo_first_b14 (N : Nat) (hN : 50000000 ≤ N) (kh14 : zSt → Int32 → Option (Int32 × zSt)) (m14 : Int) (s0 : zSt) (v1 : Int32) (v2 : Int32) (gs0 : zSt) (hkh14 : ∀ (s0 : zSt) (v2 : Int32), I_Mo s0 → (0 : Int) ≤ (zI s0 30).toInt ∧ (zI s0 30).toInt ≤ 8 → (0 : Int) ≤ (v2).toInt ∧ (v2).toInt ≤ 40 → Fr [] [56] s0 gs0 → 41 - (v2).toInt ≤ m14 - 1 → zok (kh14 s0 v2) (fun z => ((-2 : Int) ≤ (z.1).toInt ∧ (z.1).toInt ≤ 39) ∧ I_Mo z.2 ∧ Fr [] [56] z.2 gs0)) (h_s0 : I_Mo s0) (h_s0_30 : (0 : Int) ≤ (zI s0 30).toInt ∧ (zI s0 30).toInt ≤ 8) (h_v2 : (0 : Int) ≤ (v2).toInt ∧ (v2).toInt ≤ 40) (g_s0 : Fr [] [56] s0 gs0) (hm14 : 41 - (v2).toInt ≤ m14) : zok (Mo_first_b14 N kh14 s0 v1 v2) (fun z => ((-2 : Int) ≤ (z.1).toInt ∧ (z.1).toInt ≤ 39) ∧ I_Mo z.2 ∧ Fr [] [56] z.2 gs0) := by
  rw [Mo_first_b14]
  have q2 : (0 : Int) ≤ ((zI s0 47)).toInt ∧ ((zI s0 47)).toInt ≤ 40 := (h_s0).1 47
  refine zok_ite (fun c1 => ?_) (fun c1 => ?_)
  · have q3 : ((zI s0 47)).toInt ≤ (v2).toInt := tle c1
    have q4 := li_m1
    exact zok_some ⟨(show (-2 : Int) ≤ (((-1) : Int32)).toInt ∧ (((-1) : Int32)).toInt ≤ 39 from ⟨by omega, by omega⟩), h_s0, g_s0⟩
  · have q5 : ((zI s0 47)).toInt > (v2).toInt := tnle c1
    have q6 := li_1
    refine zok_bind (t_Mo_counts N hN s0 v2 (1 : Int32) v1 h_s0 (show (0 : Int) ≤ (v2).toInt ∧ (v2).toInt ≤ 39 from ⟨by omega, by omega⟩) (show (0 : Int) ≤ ((1 : Int32)).toInt ∧ ((1 : Int32)).toInt ≤ 1 from ⟨by omega, by omega⟩)) (fun z2 hz2 => ?_)
    have h_z2 := hz2
    have q8 := li_0
    refine zok_ite (fun c7 => ?_) (fun c7 => ?_)
    · have q9 : (z2).toInt = ((0 : Int32)).toInt := teq c7
      have q10 : (0 : Int) ≤ ((zI s0 30)).toInt ∧ ((zI s0 30)).toInt ≤ 9 := (h_s0).1 30
      exact t_Mo_first_b43 N hN kh14 m14 _ _ _ gs0 hkh14 h_s0 (show (0 : Int) ≤ ((zI s0 30)).toInt ∧ ((zI s0 30)).toInt ≤ 8 from ⟨by omega, by omega⟩) (show (1 : Int) ≤ ((zI s0 47)).toInt ∧ ((zI s0 47)).toInt ≤ 40 from ⟨by omega, by omega⟩) (show (0 : Int) ≤ (v2).toInt ∧ (v2).toInt ≤ 39 from ⟨by omega, by omega⟩) g_s0 (show 41 - (v2).toInt ≤ m14 from by omega)
    · have q11 : (z2).toInt ≠ ((0 : Int32)).toInt := tneq c7
      have q12 : (0 : Int) ≤ ((zI s0 30)).toInt ∧ ((zI s0 30)).toInt ≤ 9 := (h_s0).1 30
      refine zok_bind (t_Mo_canBe N hN s0 v1 v2 h_s0 (show (0 : Int) ≤ ((zI s0 30)).toInt ∧ ((zI s0 30)).toInt ≤ 8 from ⟨by omega, by omega⟩) (show (1 : Int) ≤ ((zI s0 47)).toInt ∧ ((zI s0 47)).toInt ≤ 40 from ⟨by omega, by omega⟩) (show (0 : Int) ≤ (v2).toInt ∧ (v2).toInt ≤ 39 from ⟨by omega, by omega⟩)) (fun z5 hz5 => ?_)
      obtain ⟨h_z5_1, h_z5_2, fr_z5_2⟩ := hz5
      refine zok_ite (fun c13 => ?_) (fun c13 => ?_)
      · have q14 : (z5.1).toInt = ((0 : Int32)).toInt := teq c13
        exact zok_some ⟨(show (-2 : Int) ≤ (v2).toInt ∧ (v2).toInt ≤ 39 from ⟨by omega, by omega⟩), h_z5_2, (Fr.tr fr_z5_2 g_s0 rfl rfl)⟩
      · have q15 : (z5.1).toInt ≠ ((0 : Int32)).toInt := tneq c13
        have q16 : (0 : Int) ≤ ((zI z5.2 30)).toInt ∧ ((zI z5.2 30)).toInt ≤ 9 := (h_z5_2).1 30
        have q17 : ((zI z5.2 30)).toInt = ((zI s0 30)).toInt := congrArg Int32.toInt (fr_z5_2.1 30 rfl)
        have q18 : (0 : Int) ≤ ((zI z5.2 47)).toInt ∧ ((zI z5.2 47)).toInt ≤ 40 := (h_z5_2).1 47
        have q19 : ((zI z5.2 47)).toInt = ((zI s0 47)).toInt := congrArg Int32.toInt (fr_z5_2.1 47 rfl)
        exact t_Mo_first_b43 N hN kh14 m14 _ _ _ gs0 hkh14 h_z5_2 (show (0 : Int) ≤ ((zI z5.2 30)).toInt ∧ ((zI z5.2 30)).toInt ≤ 8 from ⟨by omega, by omega⟩) (show (1 : Int) ≤ ((zI z5.2 47)).toInt ∧ ((zI z5.2 47)).toInt ≤ 40 from ⟨by omega, by omega⟩) (show (0 : Int) ≤ (v2).toInt ∧ (v2).toInt ≤ 39 from ⟨by omega, by omega⟩) (Fr.tr fr_z5_2 g_s0 rfl rfl) (show 41 - (v2).toInt ≤ m14 from by omega)
theorem t_Mo_first_h14 (N : Nat) (hN : 50000000 ≤ N) (v1 : Int32) (gs0 : zSt) : ∀ (n : Nat) (s0 : zSt) (v2 : Int32), I_Mo s0 → (0 : Int) ≤ (zI s0 30).toInt ∧ (zI s0 30).toInt ≤ 8 → (0 : Int) ≤ (v2).toInt ∧ (v2).toInt ≤ 40 → Fr [] [56] s0 gs0 → 41 - (v2).toInt ≤ (n : Int) → zok (Mo_first_h14 N v1 n s0 v2) (fun z => ((-2 : Int) ≤ (z.1).toInt ∧ (z.1).toInt ≤ 39) ∧ I_Mo z.2 ∧ Fr [] [56] z.2 gs0)
  | 0, s0, v2, h_s0, h_s0_30, h_v2, g_s0, hm => absurd hm (by omega)
  | n + 1, s0, v2, h_s0, h_s0_30, h_v2, g_s0, hm => by
    rw [Mo_first_h14_s]
    exact t_Mo_first_b14 N hN (Mo_first_h14 N v1 n) ((n + 1 : Nat) : Int) s0 v1 v2 gs0 (fun s0 v2 h_s0 h_s0_30 h_v2 g_s0 q => t_Mo_first_h14 N hN  v1 gs0     n s0 v2 h_s0 h_s0_30 h_v2 g_s0 (by omega)) h_s0 h_s0_30 h_v2 g_s0 hm
theorem t_Mo_first_b0 (N : Nat) (hN : 50000000 ≤ N) (s0 : zSt) (v1 : Int32) (gs0 : zSt) (h_s0 : I_Mo s0) (g_s0 : Fr [] [56] s0 gs0) : zok (Mo_first_b0 N s0 v1) (fun z => ((-2 : Int) ≤ (z.1).toInt ∧ (z.1).toInt ≤ 39) ∧ I_Mo z.2 ∧ Fr [] [56] z.2 gs0) := by
  rw [Mo_first_b0]
  have q2 : (0 : Int) ≤ ((zI s0 30)).toInt ∧ ((zI s0 30)).toInt ≤ 9 := (h_s0).1 30
  have q3 := li_8
  refine zok_ite (fun c1 => ?_) (fun c1 => ?_)
  · have q4 : ((zI s0 30)).toInt ≤ ((8 : Int32)).toInt := tle c1
    have q5 := li_0
    exact t_Mo_first_h14 N hN  _ gs0    N _ _ h_s0 (show (0 : Int) ≤ ((zI s0 30)).toInt ∧ ((zI s0 30)).toInt ≤ 8 from ⟨by omega, by omega⟩) (show (0 : Int) ≤ ((0 : Int32)).toInt ∧ ((0 : Int32)).toInt ≤ 40 from ⟨by omega, by omega⟩) g_s0 (show 41 - ((0 : Int32)).toInt ≤ (N : Int) from by omega)
  · have q6 : ((zI s0 30)).toInt > ((8 : Int32)).toInt := tnle c1
    have q7 := li_m2
    exact zok_some ⟨(show (-2 : Int) ≤ (((-2) : Int32)).toInt ∧ (((-2) : Int32)).toInt ≤ 39 from ⟨by omega, by omega⟩), h_s0, g_s0⟩
theorem t_Mo_first (N : Nat) (hN : 50000000 ≤ N) (s0 : zSt) (v1 : Int32) (h_s0 : I_Mo s0) : zok (Mo_first N s0 v1) (fun z => ((-2 : Int) ≤ (z.1).toInt ∧ (z.1).toInt ≤ 39) ∧ I_Mo z.2 ∧ Fr [] [56] z.2 s0) :=
  t_Mo_first_b0 N hN s0 v1 s0 h_s0 ⟨fun _ _ => rfl, fun _ _ => rfl⟩
theorem t_Mo_areAlike_b105 (N : Nat) (hN : 50000000 ≤ N) (kh79 : zSt → Int32 → Int32 → Option (Int32 × zSt)) (m79 : Int) (s0 : zSt) (v4 : Int32) (t0 : Int32) (gs0 : zSt) (hkh79 : ∀ (s0 : zSt) (v3 : Int32) (v4 : Int32), I_Mo s0 → (0 : Int) ≤ (zI s0 30).toInt ∧ (zI s0 30).toInt ≤ 8 → (1 : Int) ≤ (zI s0 61).toInt ∧ (zI s0 61).toInt ≤ 64 → (0 : Int) ≤ (v3).toInt ∧ (v3).toInt ≤ 1 → (0 : Int) ≤ (v4).toInt ∧ (v4).toInt ≤ 12 → Fr [] [59] s0 gs0 → 13 - (v4).toInt ≤ m79 - 1 → zok (kh79 s0 v3 v4) (fun z => ((0 : Int) ≤ (z.1).toInt ∧ (z.1).toInt ≤ 1) ∧ I_Mo z.2 ∧ Fr [] [59] z.2 gs0)) (h_s0 : I_Mo s0) (h_s0_30 : (0 : Int) ≤ (zI s0 30).toInt ∧ (zI s0 30).toInt ≤ 8) (h_s0_61 : (1 : Int) ≤ (zI s0 61).toInt ∧ (zI s0 61).toInt ≤ 64) (h_v4 : (0 : Int) ≤ (v4).toInt ∧ (v4).toInt ≤ 11) (h_t0 : (0 : Int) ≤ (t0).toInt ∧ (t0).toInt ≤ 1) (g_s0 : Fr [] [59] s0 gs0) (hm79 : 13 - (v4).toInt ≤ m79) : zok (Mo_areAlike_b105 N kh79 s0 v4 t0) (fun z => ((0 : Int) ≤ (z.1).toInt ∧ (z.1).toInt ≤ 1) ∧ I_Mo z.2 ∧ Fr [] [59] z.2 gs0) := by
  rw [Mo_areAlike_b105]
  have q1 : (0 : Int) ≤ ((zI s0 30)).toInt ∧ ((zI s0 30)).toInt ≤ 9 := (h_s0).1 30
  have q2 : (0 : Int) ≤ ((zI s0 61)).toInt ∧ ((zI s0 61)).toInt ≤ 64 := (h_s0).1 61
  have q3 := li_1
  have q4 := tadd v4 (1 : Int32) (by omega) (by omega)
  exact hkh79 _ _ _ h_s0 (show (0 : Int) ≤ ((zI s0 30)).toInt ∧ ((zI s0 30)).toInt ≤ 8 from ⟨by omega, by omega⟩) (show (1 : Int) ≤ ((zI s0 61)).toInt ∧ ((zI s0 61)).toInt ≤ 64 from ⟨by omega, by omega⟩) (show (0 : Int) ≤ (t0).toInt ∧ (t0).toInt ≤ 1 from ⟨by omega, by omega⟩) (show (0 : Int) ≤ ((v4 + (1 : Int32))).toInt ∧ ((v4 + (1 : Int32))).toInt ≤ 12 from ⟨by omega, by omega⟩) g_s0 (show 13 - ((v4 + (1 : Int32))).toInt ≤ m79 - 1 by omega)
theorem t_Mo_areAlike_b104 (N : Nat) (hN : 50000000 ≤ N) (kh79 : zSt → Int32 → Int32 → Option (Int32 × zSt)) (m79 : Int) (s0 : zSt) (v4 : Int32) (gs0 : zSt) (hkh79 : ∀ (s0 : zSt) (v3 : Int32) (v4 : Int32), I_Mo s0 → (0 : Int) ≤ (zI s0 30).toInt ∧ (zI s0 30).toInt ≤ 8 → (1 : Int) ≤ (zI s0 61).toInt ∧ (zI s0 61).toInt ≤ 64 → (0 : Int) ≤ (v3).toInt ∧ (v3).toInt ≤ 1 → (0 : Int) ≤ (v4).toInt ∧ (v4).toInt ≤ 12 → Fr [] [59] s0 gs0 → 13 - (v4).toInt ≤ m79 - 1 → zok (kh79 s0 v3 v4) (fun z => ((0 : Int) ≤ (z.1).toInt ∧ (z.1).toInt ≤ 1) ∧ I_Mo z.2 ∧ Fr [] [59] z.2 gs0)) (h_s0 : I_Mo s0) (h_s0_30 : (0 : Int) ≤ (zI s0 30).toInt ∧ (zI s0 30).toInt ≤ 8) (h_s0_61 : (1 : Int) ≤ (zI s0 61).toInt ∧ (zI s0 61).toInt ≤ 64) (h_v4 : (0 : Int) ≤ (v4).toInt ∧ (v4).toInt ≤ 11) (g_s0 : Fr [] [59] s0 gs0) (hm79 : 13 - (v4).toInt ≤ m79) : zok (Mo_areAlike_b104 N kh79 s0 v4) (fun z => ((0 : Int) ≤ (z.1).toInt ∧ (z.1).toInt ≤ 1) ∧ I_Mo z.2 ∧ Fr [] [59] z.2 gs0) := by
  rw [Mo_areAlike_b104]
  have q1 : (0 : Int) ≤ ((zI s0 30)).toInt ∧ ((zI s0 30)).toInt ≤ 9 := (h_s0).1 30
  have q2 : (0 : Int) ≤ ((zI s0 61)).toInt ∧ ((zI s0 61)).toInt ≤ 64 := (h_s0).1 61
  have q3 := li_0
  exact t_Mo_areAlike_b105 N hN kh79 m79 _ _ _ gs0 hkh79 h_s0 (show (0 : Int) ≤ ((zI s0 30)).toInt ∧ ((zI s0 30)).toInt ≤ 8 from ⟨by omega, by omega⟩) (show (1 : Int) ≤ ((zI s0 61)).toInt ∧ ((zI s0 61)).toInt ≤ 64 from ⟨by omega, by omega⟩) (show (0 : Int) ≤ (v4).toInt ∧ (v4).toInt ≤ 11 from ⟨by omega, by omega⟩) (show (0 : Int) ≤ ((0 : Int32)).toInt ∧ ((0 : Int32)).toInt ≤ 1 from ⟨by omega, by omega⟩) g_s0 (show 13 - (v4).toInt ≤ m79 from by omega)
theorem t_Mo_areAlike_b79 (N : Nat) (hN : 50000000 ≤ N) (kh79 : zSt → Int32 → Int32 → Option (Int32 × zSt)) (m79 : Int) (s0 : zSt) (v3 : Int32) (v4 : Int32) (gs0 : zSt) (hkh79 : ∀ (s0 : zSt) (v3 : Int32) (v4 : Int32), I_Mo s0 → (0 : Int) ≤ (zI s0 30).toInt ∧ (zI s0 30).toInt ≤ 8 → (1 : Int) ≤ (zI s0 61).toInt ∧ (zI s0 61).toInt ≤ 64 → (0 : Int) ≤ (v3).toInt ∧ (v3).toInt ≤ 1 → (0 : Int) ≤ (v4).toInt ∧ (v4).toInt ≤ 12 → Fr [] [59] s0 gs0 → 13 - (v4).toInt ≤ m79 - 1 → zok (kh79 s0 v3 v4) (fun z => ((0 : Int) ≤ (z.1).toInt ∧ (z.1).toInt ≤ 1) ∧ I_Mo z.2 ∧ Fr [] [59] z.2 gs0)) (h_s0 : I_Mo s0) (h_s0_30 : (0 : Int) ≤ (zI s0 30).toInt ∧ (zI s0 30).toInt ≤ 8) (h_s0_61 : (1 : Int) ≤ (zI s0 61).toInt ∧ (zI s0 61).toInt ≤ 64) (h_v3 : (0 : Int) ≤ (v3).toInt ∧ (v3).toInt ≤ 1) (h_v4 : (0 : Int) ≤ (v4).toInt ∧ (v4).toInt ≤ 12) (g_s0 : Fr [] [59] s0 gs0) (hm79 : 13 - (v4).toInt ≤ m79) : zok (Mo_areAlike_b79 N kh79 s0 v3 v4) (fun z => ((0 : Int) ≤ (z.1).toInt ∧ (z.1).toInt ≤ 1) ∧ I_Mo z.2 ∧ Fr [] [59] z.2 gs0) := by
  rw [Mo_areAlike_b79]
  have q2 := li_12
  refine zok_ite (fun c1 => ?_) (fun c1 => ?_)
  · have q3 : ((12 : Int32)).toInt ≤ (v4).toInt := tle c1
    refine zok_cb (t01 (by omega) (by omega)) ?_
    exact zok_some ⟨(show (0 : Int) ≤ (v3).toInt ∧ (v3).toInt ≤ 1 from ⟨by omega, by omega⟩), h_s0, g_s0⟩
  · have q4 : ((12 : Int32)).toInt > (v4).toInt := tnle c1
    have q6 := li_0
    refine zok_ite (fun c5 => ?_) (fun c5 => ?_)
    · have q7 : (v3).toInt = ((0 : Int32)).toInt := teq c5
      have q8 : (0 : Int) ≤ ((zI s0 30)).toInt ∧ ((zI s0 30)).toInt ≤ 9 := (h_s0).1 30
      have q9 : (0 : Int) ≤ ((zI s0 61)).toInt ∧ ((zI s0 61)).toInt ≤ 64 := (h_s0).1 61
      exact t_Mo_areAlike_b104 N hN kh79 m79 _ _ gs0 hkh79 h_s0 (show (0 : Int) ≤ ((zI s0 30)).toInt ∧ ((zI s0 30)).toInt ≤ 8 from ⟨by omega, by omega⟩) (show (1 : Int) ≤ ((zI s0 61)).toInt ∧ ((zI s0 61)).toInt ≤ 64 from ⟨by omega, by omega⟩) (show (0 : Int) ≤ (v4).toInt ∧ (v4).toInt ≤ 11 from ⟨by omega, by omega⟩) g_s0 (show 13 - (v4).toInt ≤ m79 from by omega)
    · have q10 : (v3).toInt ≠ ((0 : Int32)).toInt := tneq c5
      refine zok_ck (show vp_in v4 12 from vin (by omega) (by omega)) ?_
      have q12 := tr ((zA s0 59) (Int32.toNatClampNeg v4))
      refine zok_ite (fun c11 => ?_) (fun c11 => ?_)
      · have q13 : (((zA s0 59) (Int32.toNatClampNeg v4))).toInt = ((0 : Int32)).toInt := teq c11
        have q14 : (0 : Int) ≤ ((zI s0 30)).toInt ∧ ((zI s0 30)).toInt ≤ 9 := (h_s0).1 30
        have q15 : (0 : Int) ≤ ((zI s0 61)).toInt ∧ ((zI s0 61)).toInt ≤ 64 := (h_s0).1 61
        have q16 := li_1
        exact t_Mo_areAlike_b105 N hN kh79 m79 _ _ _ gs0 hkh79 h_s0 (show (0 : Int) ≤ ((zI s0 30)).toInt ∧ ((zI s0 30)).toInt ≤ 8 from ⟨by omega, by omega⟩) (show (1 : Int) ≤ ((zI s0 61)).toInt ∧ ((zI s0 61)).toInt ≤ 64 from ⟨by omega, by omega⟩) (show (0 : Int) ≤ (v4).toInt ∧ (v4).toInt ≤ 11 from ⟨by omega, by omega⟩) (show (0 : Int) ≤ ((1 : Int32)).toInt ∧ ((1 : Int32)).toInt ≤ 1 from ⟨by omega, by omega⟩) g_s0 (show 13 - (v4).toInt ≤ m79 from by omega)
      · have q17 : (((zA s0 59) (Int32.toNatClampNeg v4))).toInt ≠ ((0 : Int32)).toInt := tneq c11
        have q18 : (0 : Int) ≤ ((zI s0 30)).toInt ∧ ((zI s0 30)).toInt ≤ 9 := (h_s0).1 30
        have q19 : (0 : Int) ≤ ((zI s0 61)).toInt ∧ ((zI s0 61)).toInt ≤ 64 := (h_s0).1 61
        exact t_Mo_areAlike_b104 N hN kh79 m79 _ _ gs0 hkh79 h_s0 (show (0 : Int) ≤ ((zI s0 30)).toInt ∧ ((zI s0 30)).toInt ≤ 8 from ⟨by omega, by omega⟩) (show (1 : Int) ≤ ((zI s0 61)).toInt ∧ ((zI s0 61)).toInt ≤ 64 from ⟨by omega, by omega⟩) (show (0 : Int) ≤ (v4).toInt ∧ (v4).toInt ≤ 11 from ⟨by omega, by omega⟩) g_s0 (show 13 - (v4).toInt ≤ m79 from by omega)
theorem t_Mo_areAlike_h79 (N : Nat) (hN : 50000000 ≤ N) (gs0 : zSt) : ∀ (n : Nat) (s0 : zSt) (v3 : Int32) (v4 : Int32), I_Mo s0 → (0 : Int) ≤ (zI s0 30).toInt ∧ (zI s0 30).toInt ≤ 8 → (1 : Int) ≤ (zI s0 61).toInt ∧ (zI s0 61).toInt ≤ 64 → (0 : Int) ≤ (v3).toInt ∧ (v3).toInt ≤ 1 → (0 : Int) ≤ (v4).toInt ∧ (v4).toInt ≤ 12 → Fr [] [59] s0 gs0 → 13 - (v4).toInt ≤ (n : Int) → zok (Mo_areAlike_h79 N  n s0 v3 v4) (fun z => ((0 : Int) ≤ (z.1).toInt ∧ (z.1).toInt ≤ 1) ∧ I_Mo z.2 ∧ Fr [] [59] z.2 gs0)
  | 0, s0, v3, v4, h_s0, h_s0_30, h_s0_61, h_v3, h_v4, g_s0, hm => absurd hm (by omega)
  | n + 1, s0, v3, v4, h_s0, h_s0_30, h_s0_61, h_v3, h_v4, g_s0, hm => by
    rw [Mo_areAlike_h79_s]
    exact t_Mo_areAlike_b79 N hN (Mo_areAlike_h79 N  n) ((n + 1 : Nat) : Int) s0 v3 v4 gs0 (fun s0 v3 v4 h_s0 h_s0_30 h_s0_61 h_v3 h_v4 g_s0 q => t_Mo_areAlike_h79 N hN   gs0     n s0 v3 v4 h_s0 h_s0_30 h_s0_61 h_v3 h_v4 g_s0 (by omega)) h_s0 h_s0_30 h_s0_61 h_v3 h_v4 g_s0 hm
theorem t_Mo_areAlike_b23 (N : Nat) (hN : 50000000 ≤ N) (kh23 : zSt → Int32 → Option (Int32 × zSt)) (m23 : Int) (s0 : zSt) (v1 : Int32) (v2 : Int32) (v3 : Int32) (gs0 : zSt) (hkh23 : ∀ (s0 : zSt) (v3 : Int32), I_Mo s0 → (0 : Int) ≤ (zI s0 30).toInt ∧ (zI s0 30).toInt ≤ 8 → (1 : Int) ≤ (zI s0 61).toInt ∧ (zI s0 61).toInt ≤ 64 → (0 : Int) ≤ (v3).toInt ∧ (v3).toInt ≤ 8 → Fr [] [59] s0 gs0 → 9 - (v3).toInt ≤ m23 - 1 → zok (kh23 s0 v3) (fun z => ((0 : Int) ≤ (z.1).toInt ∧ (z.1).toInt ≤ 1) ∧ I_Mo z.2 ∧ Fr [] [59] z.2 gs0)) (h_s0 : I_Mo s0) (h_s0_30 : (0 : Int) ≤ (zI s0 30).toInt ∧ (zI s0 30).toInt ≤ 8) (h_s0_61 : (1 : Int) ≤ (zI s0 61).toInt ∧ (zI s0 61).toInt ≤ 64) (h_v3 : (0 : Int) ≤ (v3).toInt ∧ (v3).toInt ≤ 8) (g_s0 : Fr [] [59] s0 gs0) (hm23 : 9 - (v3).toInt ≤ m23) : zok (Mo_areAlike_b23 N kh23 s0 v1 v2 v3) (fun z => ((0 : Int) ≤ (z.1).toInt ∧ (z.1).toInt ≤ 1) ∧ I_Mo z.2 ∧ Fr [] [59] z.2 gs0) := by
  rw [Mo_areAlike_b23]
  have q2 : (0 : Int) ≤ ((zI s0 30)).toInt ∧ ((zI s0 30)).toInt ≤ 9 := (h_s0).1 30
  refine zok_ite (fun c1 => ?_) (fun c1 => ?_)
  · have q3 : ((zI s0 30)).toInt ≤ (v3).toInt := tle c1
    have q4 : (0 : Int) ≤ ((zI s0 61)).toInt ∧ ((zI s0 61)).toInt ≤ 64 := (h_s0).1 61
    have q5 := li_1
    have q6 := li_0
    exact t_Mo_areAlike_h79 N hN   gs0    N _ _ _ h_s0 (show (0 : Int) ≤ ((zI s0 30)).toInt ∧ ((zI s0 30)).toInt ≤ 8 from ⟨by omega, by omega⟩) (show (1 : Int) ≤ ((zI s0 61)).toInt ∧ ((zI s0 61)).toInt ≤ 64 from ⟨by omega, by omega⟩) (show (0 : Int) ≤ ((1 : Int32)).toInt ∧ ((1 : Int32)).toInt ≤ 1 from ⟨by omega, by omega⟩) (show (0 : Int) ≤ ((0 : Int32)).toInt ∧ ((0 : Int32)).toInt ≤ 12 from ⟨by omega, by omega⟩) g_s0 (show 13 - ((0 : Int32)).toInt ≤ (N : Int) from by omega)
  · have q7 : ((zI s0 30)).toInt > (v3).toInt := tnle c1
    refine zok_ck (show vp_in v3 9 from vin (by omega) (by omega)) ?_
    have q8 : (0 : Int) ≤ (((zA s0 56) (Int32.toNatClampNeg v3))).toInt ∧ (((zA s0 56) (Int32.toNatClampNeg v3))).toInt ≤ 11 := (h_s0).2 56 _
    refine zok_ck (show vp_in ((zA s0 56) (Int32.toNatClampNeg v3)) 12 from vin (by omega) (by omega)) ?_
    refine zok_ck (show vp_in v3 9 from vin (by omega) (by omega)) ?_
    have q9 : (0 : Int) ≤ (((zA s0 21) (Int32.toNatClampNeg v3))).toInt ∧ (((zA s0 21) (Int32.toNatClampNeg v3))).toInt ≤ 10 := (h_s0).2 21 _
    refine zok_ck (show vp_in ((zA s0 21) (Int32.toNatClampNeg v3)) 11 from vin (by omega) (by omega)) ?_
    refine zok_ck (show vp_in ((zA s0 56) (Int32.toNatClampNeg v3)) 12 from vin (by omega) (by omega)) ?_
    have q10 : (0 : Int) ≤ ((zI s0 61)).toInt ∧ ((zI s0 61)).toInt ≤ 64 := (h_s0).1 61
    have q11 := li_1
    have q12 := tadd v3 (1 : Int32) (by omega) (by omega)
    exact hkh23 _ _ (IS.sA 59 (upd (zA s0 59) (Int32.toNatClampNeg ((zA s0 56) (Int32.toNatClampNeg v3))) (((zA s0 59) (Int32.toNatClampNeg ((zA s0 56) (Int32.toNatClampNeg v3)))) + ((((v1 >>> (v3 &&& (31 : Int32))) &&& (1 : Int32)) - ((v2 >>> (v3 &&& (31 : Int32))) &&& (1 : Int32))) * ((zA s0 17) (Int32.toNatClampNeg ((zA s0 21) (Int32.toNatClampNeg v3))))))) h_s0 (fun _ => tr _)) (show (0 : Int) ≤ ((zI s0 30)).toInt ∧ ((zI s0 30)).toInt ≤ 8 from ⟨by omega, by omega⟩) (show (1 : Int) ≤ ((zI s0 61)).toInt ∧ ((zI s0 61)).toInt ≤ 64 from ⟨by omega, by omega⟩) (show (0 : Int) ≤ ((v3 + (1 : Int32))).toInt ∧ ((v3 + (1 : Int32))).toInt ≤ 8 from ⟨by omega, by omega⟩) (Fr.sA g_s0 rfl) (show 9 - ((v3 + (1 : Int32))).toInt ≤ m23 - 1 by omega)
theorem t_Mo_areAlike_h23 (N : Nat) (hN : 50000000 ≤ N) (v1 : Int32) (v2 : Int32) (gs0 : zSt) : ∀ (n : Nat) (s0 : zSt) (v3 : Int32), I_Mo s0 → (0 : Int) ≤ (zI s0 30).toInt ∧ (zI s0 30).toInt ≤ 8 → (1 : Int) ≤ (zI s0 61).toInt ∧ (zI s0 61).toInt ≤ 64 → (0 : Int) ≤ (v3).toInt ∧ (v3).toInt ≤ 8 → Fr [] [59] s0 gs0 → 9 - (v3).toInt ≤ (n : Int) → zok (Mo_areAlike_h23 N v1 v2 n s0 v3) (fun z => ((0 : Int) ≤ (z.1).toInt ∧ (z.1).toInt ≤ 1) ∧ I_Mo z.2 ∧ Fr [] [59] z.2 gs0)
  | 0, s0, v3, h_s0, h_s0_30, h_s0_61, h_v3, g_s0, hm => absurd hm (by omega)
  | n + 1, s0, v3, h_s0, h_s0_30, h_s0_61, h_v3, g_s0, hm => by
    rw [Mo_areAlike_h23_s]
    exact t_Mo_areAlike_b23 N hN (Mo_areAlike_h23 N v1 v2 n) ((n + 1 : Nat) : Int) s0 v1 v2 v3 gs0 (fun s0 v3 h_s0 h_s0_30 h_s0_61 h_v3 g_s0 q => t_Mo_areAlike_h23 N hN  v1 v2 gs0     n s0 v3 h_s0 h_s0_30 h_s0_61 h_v3 g_s0 (by omega)) h_s0 h_s0_30 h_s0_61 h_v3 g_s0 hm
theorem t_Mo_areAlike_b2 (N : Nat) (hN : 50000000 ≤ N) (kh2 : zSt → Int32 → Option (Int32 × zSt)) (m2 : Int) (s0 : zSt) (v1 : Int32) (v2 : Int32) (v3 : Int32) (gs0 : zSt) (hkh2 : ∀ (s0 : zSt) (v3 : Int32), I_Mo s0 → (0 : Int) ≤ (zI s0 30).toInt ∧ (zI s0 30).toInt ≤ 8 → (1 : Int) ≤ (zI s0 61).toInt ∧ (zI s0 61).toInt ≤ 64 → (0 : Int) ≤ (v3).toInt ∧ (v3).toInt ≤ 12 → Fr [] [59] s0 gs0 → 13 - (v3).toInt ≤ m2 - 1 → zok (kh2 s0 v3) (fun z => ((0 : Int) ≤ (z.1).toInt ∧ (z.1).toInt ≤ 1) ∧ I_Mo z.2 ∧ Fr [] [59] z.2 gs0)) (h_s0 : I_Mo s0) (h_s0_30 : (0 : Int) ≤ (zI s0 30).toInt ∧ (zI s0 30).toInt ≤ 8) (h_s0_61 : (1 : Int) ≤ (zI s0 61).toInt ∧ (zI s0 61).toInt ≤ 64) (h_v3 : (0 : Int) ≤ (v3).toInt ∧ (v3).toInt ≤ 12) (g_s0 : Fr [] [59] s0 gs0) (hm2 : 13 - (v3).toInt ≤ m2) : zok (Mo_areAlike_b2 N kh2 s0 v1 v2 v3) (fun z => ((0 : Int) ≤ (z.1).toInt ∧ (z.1).toInt ≤ 1) ∧ I_Mo z.2 ∧ Fr [] [59] z.2 gs0) := by
  rw [Mo_areAlike_b2]
  have q2 := li_12
  refine zok_ite (fun c1 => ?_) (fun c1 => ?_)
  · have q3 : ((12 : Int32)).toInt ≤ (v3).toInt := tle c1
    have q4 : (0 : Int) ≤ ((zI s0 30)).toInt ∧ ((zI s0 30)).toInt ≤ 9 := (h_s0).1 30
    have q5 : (0 : Int) ≤ ((zI s0 61)).toInt ∧ ((zI s0 61)).toInt ≤ 64 := (h_s0).1 61
    have q6 := li_0
    exact t_Mo_areAlike_h23 N hN  _ _ gs0    N _ _ h_s0 (show (0 : Int) ≤ ((zI s0 30)).toInt ∧ ((zI s0 30)).toInt ≤ 8 from ⟨by omega, by omega⟩) (show (1 : Int) ≤ ((zI s0 61)).toInt ∧ ((zI s0 61)).toInt ≤ 64 from ⟨by omega, by omega⟩) (show (0 : Int) ≤ ((0 : Int32)).toInt ∧ ((0 : Int32)).toInt ≤ 8 from ⟨by omega, by omega⟩) g_s0 (show 9 - ((0 : Int32)).toInt ≤ (N : Int) from by omega)
  · have q7 : ((12 : Int32)).toInt > (v3).toInt := tnle c1
    refine zok_ck (show vp_in v3 12 from vin (by omega) (by omega)) ?_
    have q8 : (0 : Int) ≤ ((zI s0 30)).toInt ∧ ((zI s0 30)).toInt ≤ 9 := (h_s0).1 30
    have q9 : (0 : Int) ≤ ((zI s0 61)).toInt ∧ ((zI s0 61)).toInt ≤ 64 := (h_s0).1 61
    have q10 := li_1
    have q11 := tadd v3 (1 : Int32) (by omega) (by omega)
    exact hkh2 _ _ (IS.sA 59 (upd (zA s0 59) (Int32.toNatClampNeg v3) (0 : Int32)) h_s0 (fun _ => tr _)) (show (0 : Int) ≤ ((zI s0 30)).toInt ∧ ((zI s0 30)).toInt ≤ 8 from ⟨by omega, by omega⟩) (show (1 : Int) ≤ ((zI s0 61)).toInt ∧ ((zI s0 61)).toInt ≤ 64 from ⟨by omega, by omega⟩) (show (0 : Int) ≤ ((v3 + (1 : Int32))).toInt ∧ ((v3 + (1 : Int32))).toInt ≤ 12 from ⟨by omega, by omega⟩) (Fr.sA g_s0 rfl) (show 13 - ((v3 + (1 : Int32))).toInt ≤ m2 - 1 by omega)
theorem t_Mo_areAlike_h2 (N : Nat) (hN : 50000000 ≤ N) (v1 : Int32) (v2 : Int32) (gs0 : zSt) : ∀ (n : Nat) (s0 : zSt) (v3 : Int32), I_Mo s0 → (0 : Int) ≤ (zI s0 30).toInt ∧ (zI s0 30).toInt ≤ 8 → (1 : Int) ≤ (zI s0 61).toInt ∧ (zI s0 61).toInt ≤ 64 → (0 : Int) ≤ (v3).toInt ∧ (v3).toInt ≤ 12 → Fr [] [59] s0 gs0 → 13 - (v3).toInt ≤ (n : Int) → zok (Mo_areAlike_h2 N v1 v2 n s0 v3) (fun z => ((0 : Int) ≤ (z.1).toInt ∧ (z.1).toInt ≤ 1) ∧ I_Mo z.2 ∧ Fr [] [59] z.2 gs0)
  | 0, s0, v3, h_s0, h_s0_30, h_s0_61, h_v3, g_s0, hm => absurd hm (by omega)
  | n + 1, s0, v3, h_s0, h_s0_30, h_s0_61, h_v3, g_s0, hm => by
    rw [Mo_areAlike_h2_s]
    exact t_Mo_areAlike_b2 N hN (Mo_areAlike_h2 N v1 v2 n) ((n + 1 : Nat) : Int) s0 v1 v2 v3 gs0 (fun s0 v3 h_s0 h_s0_30 h_s0_61 h_v3 g_s0 q => t_Mo_areAlike_h2 N hN  v1 v2 gs0     n s0 v3 h_s0 h_s0_30 h_s0_61 h_v3 g_s0 (by omega)) h_s0 h_s0_30 h_s0_61 h_v3 g_s0 hm
theorem t_Mo_areAlike_b0 (N : Nat) (hN : 50000000 ≤ N) (s0 : zSt) (v1 : Int32) (v2 : Int32) (gs0 : zSt) (h_s0 : I_Mo s0) (h_s0_30 : (0 : Int) ≤ (zI s0 30).toInt ∧ (zI s0 30).toInt ≤ 8) (h_s0_61 : (1 : Int) ≤ (zI s0 61).toInt ∧ (zI s0 61).toInt ≤ 64) (g_s0 : Fr [] [59] s0 gs0) : zok (Mo_areAlike_b0 N s0 v1 v2) (fun z => ((0 : Int) ≤ (z.1).toInt ∧ (z.1).toInt ≤ 1) ∧ I_Mo z.2 ∧ Fr [] [59] z.2 gs0) := by
  rw [Mo_areAlike_b0]
  have q1 : (0 : Int) ≤ ((zI s0 30)).toInt ∧ ((zI s0 30)).toInt ≤ 9 := (h_s0).1 30
  have q2 : (0 : Int) ≤ ((zI s0 61)).toInt ∧ ((zI s0 61)).toInt ≤ 64 := (h_s0).1 61
  have q3 := li_0
  exact t_Mo_areAlike_h2 N hN  _ _ gs0    N _ _ h_s0 (show (0 : Int) ≤ ((zI s0 30)).toInt ∧ ((zI s0 30)).toInt ≤ 8 from ⟨by omega, by omega⟩) (show (1 : Int) ≤ ((zI s0 61)).toInt ∧ ((zI s0 61)).toInt ≤ 64 from ⟨by omega, by omega⟩) (show (0 : Int) ≤ ((0 : Int32)).toInt ∧ ((0 : Int32)).toInt ≤ 12 from ⟨by omega, by omega⟩) g_s0 (show 13 - ((0 : Int32)).toInt ≤ (N : Int) from by omega)
theorem t_Mo_areAlike (N : Nat) (hN : 50000000 ≤ N) (s0 : zSt) (v1 : Int32) (v2 : Int32) (h_s0 : I_Mo s0) (h_s0_30 : (0 : Int) ≤ (zI s0 30).toInt ∧ (zI s0 30).toInt ≤ 8) (h_s0_61 : (1 : Int) ≤ (zI s0 61).toInt ∧ (zI s0 61).toInt ≤ 64) : zok (Mo_areAlike N s0 v1 v2) (fun z => ((0 : Int) ≤ (z.1).toInt ∧ (z.1).toInt ≤ 1) ∧ I_Mo z.2 ∧ Fr [] [59] z.2 s0) :=
  t_Mo_areAlike_b0 N hN s0 v1 v2 s0 h_s0 h_s0_30 h_s0_61 ⟨fun _ _ => rfl, fun _ _ => rfl⟩
theorem t_Mo_ones_b4 (N : Nat) (hN : 50000000 ≤ N) (kh4 : Int32 → Int32 → Option (Int32)) (m4 : Int) (v0 : Int32) (v1 : Int32) (v2 : Int32) (hkh4 : ∀ (v1 : Int32) (v2 : Int32), (0 : Int) ≤ (v2).toInt ∧ (v2).toInt ≤ 9 → 10 - (v2).toInt ≤ m4 - 1 → zok (kh4 v1 v2) (fun z => True)) (h_v0 : (0 : Int) ≤ (v0).toInt ∧ (v0).toInt ≤ 255) (h_v2 : (0 : Int) ≤ (v2).toInt ∧ (v2).toInt ≤ 9) (hm4 : 10 - (v2).toInt ≤ m4) : zok (Mo_ones_b4 N kh4 v0 v1 v2) (fun z => True) := by
  rw [Mo_ones_b4]
  have q2 := li_9
  refine zok_ite (fun c1 => ?_) (fun c1 => ?_)
  · have q3 : ((9 : Int32)).toInt ≤ (v2).toInt := tle c1
    exact zok_some trivial
  · have q4 : ((9 : Int32)).toInt > (v2).toInt := tnle c1
    have q5 := li_1
    have q6 := tadd v2 (1 : Int32) (by omega) (by omega)
    exact hkh4 _ _ (show (0 : Int) ≤ ((v2 + (1 : Int32))).toInt ∧ ((v2 + (1 : Int32))).toInt ≤ 9 from ⟨by omega, by omega⟩) (show 10 - ((v2 + (1 : Int32))).toInt ≤ m4 - 1 by omega)
theorem t_Mo_ones_h4 (N : Nat) (hN : 50000000 ≤ N) (v0 : Int32) (h_v0 : (0 : Int) ≤ (v0).toInt ∧ (v0).toInt ≤ 255) : ∀ (n : Nat) (v1 : Int32) (v2 : Int32), (0 : Int) ≤ (v2).toInt ∧ (v2).toInt ≤ 9 → 10 - (v2).toInt ≤ (n : Int) → zok (Mo_ones_h4 N v0 n v1 v2) (fun z => True)
  | 0, v1, v2, h_v2, hm => absurd hm (by omega)
  | n + 1, v1, v2, h_v2, hm => by
    rw [Mo_ones_h4_s]
    exact t_Mo_ones_b4 N hN (Mo_ones_h4 N v0 n) ((n + 1 : Nat) : Int) v0 v1 v2  (fun v1 v2 h_v2 q => t_Mo_ones_h4 N hN  v0   h_v0   n v1 v2 h_v2 (by omega)) h_v0 h_v2  hm
theorem t_Mo_ones_b0 (N : Nat) (hN : 50000000 ≤ N) (v0 : Int32) (h_v0 : (0 : Int) ≤ (v0).toInt ∧ (v0).toInt ≤ 255) : zok (Mo_ones_b0 N v0) (fun z => True) := by
  rw [Mo_ones_b0]
  have q1 := li_0
  exact t_Mo_ones_h4 N hN  _   (show (0 : Int) ≤ (v0).toInt ∧ (v0).toInt ≤ 255 from ⟨by omega, by omega⟩)  N _ _ (show (0 : Int) ≤ ((0 : Int32)).toInt ∧ ((0 : Int32)).toInt ≤ 9 from ⟨by omega, by omega⟩) (show 10 - ((0 : Int32)).toInt ≤ (N : Int) from by omega)
theorem t_Mo_ones (N : Nat) (hN : 50000000 ≤ N) (v0 : Int32) (h_v0 : (0 : Int) ≤ (v0).toInt ∧ (v0).toInt ≤ 255) : zok (Mo_ones N v0) (fun z => True) :=
  t_Mo_ones_b0 N hN v0  h_v0 
/-- how many of the bits of a number are set -/
def cbt (a : Nat) : Nat → Nat
  | 0 => 0
  | r + 1 => a / 2 ^ (8 - r) % 2 + cbt a r
theorem ones_ok {N a : Nat} (ha : a < 512) : ∀ (k i c : Nat), i ≤ 9 → 9 - i < k → Mo_ones_h4 N (nI a) k (nI c) (nI i) = some (nI (c + cbt a (9 - i))) := by
  intro k
  induction k with
  | zero => intro i c _ h; exact absurd h (by omega)
  | succ k ih =>
    intro i c hi hk
    rw [Mo_ones_h4_s]
    unfold Mo_ones_b4
    by_cases e : i = 9
    · subst e
      rw [if_pos (by decide)]
      rfl
    · rw [if_neg (fun r => absurd ((zleR (k := 9) (by omega) (by decide)).mp r) (by omega)), pk_shrN (by omega) _ i (sl_ok i (by omega)), pk_andN (Nat.lt_of_le_of_lt (Nat.div_le_self _ _) (by omega)) (m := 1) 1 (by decide), nI_add, nI_1, ih (i + 1) _ (by omega) (by omega)]
      obtain ⟨r, hr⟩ : ∃ r, 9 - i = r + 1 := ⟨8 - i, by omega⟩
      rw [hr, show 9 - (i + 1) = r by omega]
      show _ = some (nI (c + (a / 2 ^ (8 - r) % 2 + cbt a r)))
      rw [show 8 - r = i by omega, Nat.add_assoc]
theorem cbt_lt (a : Nat) : ∀ r, cbt a r ≤ r := by
  intro r
  induction r with
  | zero => exact Nat.le_refl 0
  | succ r ih => show a / 2 ^ (8 - r) % 2 + cbt a r ≤ r + 1; omega
theorem Mo_ones_eq {N a : Nat} (hN : 50000000 ≤ N) (ha : a < 512) : Mo_ones N (nI a) = some (nI (cbt a 9)) := by
  unfold Mo_ones Mo_ones_b0
  rw [show (0 : Int32) = nI 0 from rfl, ones_ok ha N 0 0 (by omega) (by omega), Nat.zero_add]
/-- how many below a have at most two bits -/
def fct : Nat → Nat
  | 0 => 0
  | a + 1 => fct a + if cbt a 9 ≤ 2 then 1 else 0
theorem fct_le : ∀ a, a ≤ 256 → fct a ≤ 37 := by decide +kernel
theorem lay_loop {N : Nat} (hN : 50000000 ≤ N) {m : Nat} (hm : m ≤ 8) (g : zSt) (v1 : Int32) (hv : v1.toInt ≤ 2) : ∀ (k a c : Nat) (s : zSt), a ≤ 256 → 257 - a ≤ k → I_Mo s → Fr [61] [60] s g → zI s 30 = nI m → zI s 61 = nI c → c ≤ fct a → zok (Mo_layFew_h7 N v1 k s (nI a)) (fun z => I_Mo z ∧ Fr [61] [60] z g) := by
  intro k
  induction k with
  | zero => intro a c s h1 h2; exact absurd h2 (by omega)
  | succ k ih =>
    intro a c s ha hk hs hf h30 h61 hc
    have hp : 2 ^ m ≤ 256 := Nat.le_trans (Nat.pow_le_pow_right (by decide) hm) (by decide)
    rw [Mo_layFew_h7_s]
    unfold Mo_layFew_b7
    rw [h30, tshl_all m (by omega)]
    refine zok_ite (fun _ => zok_some ⟨hs, hf⟩) (fun q => ?_)
    have ha2 : a < 2 ^ m := by
      rcases Nat.lt_or_ge a (2 ^ m) with l | l
      · exact l
      · exact absurd ((nI_leI (by omega) (by omega)).mpr l) q
    have hcb := cbt_lt a 9
    refine zok_be (Mo_ones_eq hN (by omega)) ?_
    have hfs : fct (a + 1) = fct a + if cbt a 9 ≤ 2 then 1 else 0 := rfl
    have hfa := fct_le a ha
    refine zok_ite (fun q2 => ?_) (fun _ => ?_)
    · have q2 := tle q2
      rw [nI_toInt (by omega)] at q2
      rw [if_pos (by omega)] at hfs
      rw [h61]
      refine zok_ck (vp_in_nI (by omega) (by decide)) ?_
      unfold Mo_layFew_b48
      rw [nI_1, nI_1]
      have e := nI_toInt (n := c + 1) (by omega)
      exact ih (a + 1) (c + 1) _ (by omega) (by omega) (IS.pI 61 _ (IS.sA 60 _ hs (fun _ => tr _)) (show (0 : Int) ≤ (nI (c + 1)).toInt ∧ (nI (c + 1)).toInt ≤ 64 by omega)) (Fr.pI (Fr.sA hf rfl) rfl) h30 rfl (by omega)
    · unfold Mo_layFew_b48
      rw [nI_1]
      exact ih (a + 1) c s (by omega) (by omega) hs hf h30 h61 (by rw [hfs]; split <;> omega)
theorem t_Mo_layFew (N : Nat) (hN : 50000000 ≤ N) (s0 : zSt) (v1 : Int32) (h_s0 : I_Mo s0) (h_s0_30 : (0 : Int) ≤ (zI s0 30).toInt ∧ (zI s0 30).toInt ≤ 8) (h_s0_58 : (0 : Int) ≤ (zI s0 58).toInt ∧ (zI s0 58).toInt ≤ 0) (h_v1 : (1 : Int) ≤ (v1).toInt ∧ (v1).toInt ≤ 2) : zok (Mo_layFew N s0 v1) (fun z => I_Mo z ∧ Fr [61] [60] z s0) := by
  obtain ⟨m, em, lm, _⟩ := i_nat h_s0_30.1 h_s0_30.2
  unfold Mo_layFew Mo_layFew_b0
  exact lay_loop hN (m := m) (by omega) s0 v1 h_v1.2 N 0 0 _ (by omega) (by omega) (IS.pI 61 0 h_s0 (show (0 : Int) ≤ (0 : Int32).toInt ∧ (0 : Int32).toInt ≤ 64 by decide)) (Fr.pI Fr.rf rfl) em rfl (by decide)
theorem t_Mo_areKnown_b12 (N : Nat) (hN : 50000000 ≤ N) (kh2 : zSt → Int32 → Option (Int32 × zSt)) (m2 : Int) (kh12 : zSt → Int32 → Option (Int32 × zSt)) (m12 : Int) (s0 : zSt) (v1 : Int32) (v2 : Int32) (gs0 : zSt) (hkh2 : ∀ (s0 : zSt) (v1 : Int32), I_Mo s0 → (0 : Int) ≤ (zI s0 30).toInt ∧ (zI s0 30).toInt ≤ 8 → (0 : Int) ≤ (v1).toInt ∧ (v1).toInt ≤ 64 → Fr [] [59] s0 gs0 → 65 - (v1).toInt ≤ m2 - 1 → zok (kh2 s0 v1) (fun z => ((0 : Int) ≤ (z.1).toInt ∧ (z.1).toInt ≤ 1) ∧ I_Mo z.2 ∧ Fr [] [59] z.2 gs0)) (hkh12 : ∀ (s0 : zSt) (v2 : Int32), I_Mo s0 → (0 : Int) ≤ (zI s0 30).toInt ∧ (zI s0 30).toInt ≤ 8 → (1 : Int) ≤ (zI s0 61).toInt ∧ (zI s0 61).toInt ≤ 64 → (0 : Int) ≤ (v2).toInt ∧ (v2).toInt ≤ 63 → Fr [] [59] s0 gs0 → 64 - (v2).toInt ≤ m12 - 1 → zok (kh12 s0 v2) (fun z => ((0 : Int) ≤ (z.1).toInt ∧ (z.1).toInt ≤ 1) ∧ I_Mo z.2 ∧ Fr [] [59] z.2 gs0)) (h_s0 : I_Mo s0) (h_s0_30 : (0 : Int) ≤ (zI s0 30).toInt ∧ (zI s0 30).toInt ≤ 8) (h_s0_61 : (1 : Int) ≤ (zI s0 61).toInt ∧ (zI s0 61).toInt ≤ 64) (h_v1 : (0 : Int) ≤ (v1).toInt ∧ (v1).toInt ≤ 63) (h_v2 : (0 : Int) ≤ (v2).toInt ∧ (v2).toInt ≤ 63) (g_s0 : Fr [] [59] s0 gs0) (hm2 : 65 - (v1).toInt ≤ m2) (hm12 : 64 - (v2).toInt ≤ m12) : zok (Mo_areKnown_b12 N kh2 kh12 s0 v1 v2) (fun z => ((0 : Int) ≤ (z.1).toInt ∧ (z.1).toInt ≤ 1) ∧ I_Mo z.2 ∧ Fr [] [59] z.2 gs0) := by
  rw [Mo_areKnown_b12]
  refine zok_ite (fun c1 => ?_) (fun c1 => ?_)
  · have q2 : (v1).toInt ≤ (v2).toInt := tle c1
    have q3 : (0 : Int) ≤ ((zI s0 30)).toInt ∧ ((zI s0 30)).toInt ≤ 9 := (h_s0).1 30
    have q4 := li_1
    have q5 := tadd v1 (1 : Int32) (by omega) (by omega)
    exact hkh2 _ _ h_s0 (show (0 : Int) ≤ ((zI s0 30)).toInt ∧ ((zI s0 30)).toInt ≤ 8 from ⟨by omega, by omega⟩) (show (0 : Int) ≤ ((v1 + (1 : Int32))).toInt ∧ ((v1 + (1 : Int32))).toInt ≤ 64 from ⟨by omega, by omega⟩) g_s0 (show 65 - ((v1 + (1 : Int32))).toInt ≤ m2 - 1 by omega)
  · have q6 : (v1).toInt > (v2).toInt := tnle c1
    refine zok_ck (show vp_in v1 64 from vin (by omega) (by omega)) ?_
    refine zok_ck (show vp_in v2 64 from vin (by omega) (by omega)) ?_
    have q7 : (0 : Int) ≤ ((zI s0 30)).toInt ∧ ((zI s0 30)).toInt ≤ 9 := (h_s0).1 30
    have q8 : (0 : Int) ≤ ((zI s0 61)).toInt ∧ ((zI s0 61)).toInt ≤ 64 := (h_s0).1 61
    refine zok_bind (t_Mo_areAlike N hN s0 ((zA s0 60) (Int32.toNatClampNeg v1)) ((zA s0 60) (Int32.toNatClampNeg v2)) h_s0 (show (0 : Int) ≤ ((zI s0 30)).toInt ∧ ((zI s0 30)).toInt ≤ 8 from ⟨by omega, by omega⟩) (show (1 : Int) ≤ ((zI s0 61)).toInt ∧ ((zI s0 61)).toInt ≤ 64 from ⟨by omega, by omega⟩)) (fun z4 hz4 => ?_)
    obtain ⟨h_z4_1, h_z4_2, fr_z4_2⟩ := hz4
    have q10 := li_0
    refine zok_ite (fun c9 => ?_) (fun c9 => ?_)
    · have q11 : (z4.1).toInt = ((0 : Int32)).toInt := teq c9
      have q12 : (0 : Int) ≤ ((zI z4.2 30)).toInt ∧ ((zI z4.2 30)).toInt ≤ 9 := (h_z4_2).1 30
      have q13 : ((zI z4.2 30)).toInt = ((zI s0 30)).toInt := congrArg Int32.toInt (fr_z4_2.1 30 rfl)
      have q14 : (0 : Int) ≤ ((zI z4.2 61)).toInt ∧ ((zI z4.2 61)).toInt ≤ 64 := (h_z4_2).1 61
      have q15 : ((zI z4.2 61)).toInt = ((zI s0 61)).toInt := congrArg Int32.toInt (fr_z4_2.1 61 rfl)
      have q16 := li_1
      have q17 := tadd v2 (1 : Int32) (by omega) (by omega)
      exact hkh12 _ _ (IS.mg [60] h_z4_2 h_s0) (show (0 : Int) ≤ ((zI z4.2 30)).toInt ∧ ((zI z4.2 30)).toInt ≤ 8 from ⟨by omega, by omega⟩) (show (1 : Int) ≤ ((zI z4.2 61)).toInt ∧ ((zI z4.2 61)).toInt ≤ 64 from ⟨by omega, by omega⟩) (show (0 : Int) ≤ ((v2 + (1 : Int32))).toInt ∧ ((v2 + (1 : Int32))).toInt ≤ 63 from ⟨by omega, by omega⟩) (Fr.mg (Fr.tr fr_z4_2 g_s0 rfl rfl) g_s0) (show 64 - ((v2 + (1 : Int32))).toInt ≤ m12 - 1 by omega)
    · have q18 : (z4.1).toInt ≠ ((0 : Int32)).toInt := tneq c9
      exact zok_some ⟨(show (0 : Int) ≤ ((0 : Int32)).toInt ∧ ((0 : Int32)).toInt ≤ 1 from ⟨by omega, by omega⟩), (IS.mg [60] h_z4_2 h_s0), (Fr.mg (Fr.tr fr_z4_2 g_s0 rfl rfl) g_s0)⟩
theorem t_Mo_areKnown_h12 (N : Nat) (hN : 50000000 ≤ N) (kh2 : zSt → Int32 → Option (Int32 × zSt)) (m2 : Int) (v1 : Int32) (gs0 : zSt) (hkh2 : ∀ (s0 : zSt) (v1 : Int32), I_Mo s0 → (0 : Int) ≤ (zI s0 30).toInt ∧ (zI s0 30).toInt ≤ 8 → (0 : Int) ≤ (v1).toInt ∧ (v1).toInt ≤ 64 → Fr [] [59] s0 gs0 → 65 - (v1).toInt ≤ m2 - 1 → zok (kh2 s0 v1) (fun z => ((0 : Int) ≤ (z.1).toInt ∧ (z.1).toInt ≤ 1) ∧ I_Mo z.2 ∧ Fr [] [59] z.2 gs0)) (h_v1 : (0 : Int) ≤ (v1).toInt ∧ (v1).toInt ≤ 63) (hm2 : 65 - (v1).toInt ≤ m2) : ∀ (n : Nat) (s0 : zSt) (v2 : Int32), I_Mo s0 → (0 : Int) ≤ (zI s0 30).toInt ∧ (zI s0 30).toInt ≤ 8 → (1 : Int) ≤ (zI s0 61).toInt ∧ (zI s0 61).toInt ≤ 64 → (0 : Int) ≤ (v2).toInt ∧ (v2).toInt ≤ 63 → Fr [] [59] s0 gs0 → 64 - (v2).toInt ≤ (n : Int) → zok (Mo_areKnown_h12 N kh2 v1 n s0 v2) (fun z => ((0 : Int) ≤ (z.1).toInt ∧ (z.1).toInt ≤ 1) ∧ I_Mo z.2 ∧ Fr [] [59] z.2 gs0)
  | 0, s0, v2, h_s0, h_s0_30, h_s0_61, h_v2, g_s0, hm => absurd hm (by omega)
  | n + 1, s0, v2, h_s0, h_s0_30, h_s0_61, h_v2, g_s0, hm => by
    rw [Mo_areKnown_h12_s]
    exact t_Mo_areKnown_b12 N hN kh2 m2 (Mo_areKnown_h12 N kh2 v1 n) ((n + 1 : Nat) : Int) s0 v1 v2 gs0 hkh2 (fun s0 v2 h_s0 h_s0_30 h_s0_61 h_v2 g_s0 q => t_Mo_areKnown_h12 N hN kh2 m2 v1 gs0 hkh2 h_v1  hm2 n s0 v2 h_s0 h_s0_30 h_s0_61 h_v2 g_s0 (by omega)) h_s0 h_s0_30 h_s0_61 h_v1 h_v2 g_s0 hm2 hm
theorem t_Mo_areKnown_b2 (N : Nat) (hN : 50000000 ≤ N) (kh2 : zSt → Int32 → Option (Int32 × zSt)) (m2 : Int) (s0 : zSt) (v1 : Int32) (gs0 : zSt) (hkh2 : ∀ (s0 : zSt) (v1 : Int32), I_Mo s0 → (0 : Int) ≤ (zI s0 30).toInt ∧ (zI s0 30).toInt ≤ 8 → (0 : Int) ≤ (v1).toInt ∧ (v1).toInt ≤ 64 → Fr [] [59] s0 gs0 → 65 - (v1).toInt ≤ m2 - 1 → zok (kh2 s0 v1) (fun z => ((0 : Int) ≤ (z.1).toInt ∧ (z.1).toInt ≤ 1) ∧ I_Mo z.2 ∧ Fr [] [59] z.2 gs0)) (h_s0 : I_Mo s0) (h_s0_30 : (0 : Int) ≤ (zI s0 30).toInt ∧ (zI s0 30).toInt ≤ 8) (h_v1 : (0 : Int) ≤ (v1).toInt ∧ (v1).toInt ≤ 64) (g_s0 : Fr [] [59] s0 gs0) (hm2 : 65 - (v1).toInt ≤ m2) : zok (Mo_areKnown_b2 N kh2 s0 v1) (fun z => ((0 : Int) ≤ (z.1).toInt ∧ (z.1).toInt ≤ 1) ∧ I_Mo z.2 ∧ Fr [] [59] z.2 gs0) := by
  rw [Mo_areKnown_b2]
  have q2 : (0 : Int) ≤ ((zI s0 61)).toInt ∧ ((zI s0 61)).toInt ≤ 64 := (h_s0).1 61
  refine zok_ite (fun c1 => ?_) (fun c1 => ?_)
  · have q3 : ((zI s0 61)).toInt ≤ (v1).toInt := tle c1
    have q4 := li_1
    exact zok_some ⟨(show (0 : Int) ≤ ((1 : Int32)).toInt ∧ ((1 : Int32)).toInt ≤ 1 from ⟨by omega, by omega⟩), h_s0, g_s0⟩
  · have q5 : ((zI s0 61)).toInt > (v1).toInt := tnle c1
    have q6 : (0 : Int) ≤ ((zI s0 30)).toInt ∧ ((zI s0 30)).toInt ≤ 9 := (h_s0).1 30
    have q7 := li_0
    exact t_Mo_areKnown_h12 N hN kh2 m2 _ gs0 hkh2 (show (0 : Int) ≤ (v1).toInt ∧ (v1).toInt ≤ 63 from ⟨by omega, by omega⟩) (show 65 - (v1).toInt ≤ m2 from by omega) N _ _ h_s0 (show (0 : Int) ≤ ((zI s0 30)).toInt ∧ ((zI s0 30)).toInt ≤ 8 from ⟨by omega, by omega⟩) (show (1 : Int) ≤ ((zI s0 61)).toInt ∧ ((zI s0 61)).toInt ≤ 64 from ⟨by omega, by omega⟩) (show (0 : Int) ≤ ((0 : Int32)).toInt ∧ ((0 : Int32)).toInt ≤ 63 from ⟨by omega, by omega⟩) g_s0 (show 64 - ((0 : Int32)).toInt ≤ (N : Int) from by omega)
theorem t_Mo_areKnown_h2 (N : Nat) (hN : 50000000 ≤ N) (gs0 : zSt) : ∀ (n : Nat) (s0 : zSt) (v1 : Int32), I_Mo s0 → (0 : Int) ≤ (zI s0 30).toInt ∧ (zI s0 30).toInt ≤ 8 → (0 : Int) ≤ (v1).toInt ∧ (v1).toInt ≤ 64 → Fr [] [59] s0 gs0 → 65 - (v1).toInt ≤ (n : Int) → zok (Mo_areKnown_h2 N  n s0 v1) (fun z => ((0 : Int) ≤ (z.1).toInt ∧ (z.1).toInt ≤ 1) ∧ I_Mo z.2 ∧ Fr [] [59] z.2 gs0)
  | 0, s0, v1, h_s0, h_s0_30, h_v1, g_s0, hm => absurd hm (by omega)
  | n + 1, s0, v1, h_s0, h_s0_30, h_v1, g_s0, hm => by
    rw [Mo_areKnown_h2_s]
    exact t_Mo_areKnown_b2 N hN (Mo_areKnown_h2 N  n) ((n + 1 : Nat) : Int) s0 v1 gs0 (fun s0 v1 h_s0 h_s0_30 h_v1 g_s0 q => t_Mo_areKnown_h2 N hN   gs0     n s0 v1 h_s0 h_s0_30 h_v1 g_s0 (by omega)) h_s0 h_s0_30 h_v1 g_s0 hm
theorem t_Mo_areKnown_b0 (N : Nat) (hN : 50000000 ≤ N) (s0 : zSt) (gs0 : zSt) (h_s0 : I_Mo s0) (h_s0_30 : (0 : Int) ≤ (zI s0 30).toInt ∧ (zI s0 30).toInt ≤ 8) (g_s0 : Fr [] [59] s0 gs0) : zok (Mo_areKnown_b0 N s0) (fun z => ((0 : Int) ≤ (z.1).toInt ∧ (z.1).toInt ≤ 1) ∧ I_Mo z.2 ∧ Fr [] [59] z.2 gs0) := by
  rw [Mo_areKnown_b0]
  have q1 : (0 : Int) ≤ ((zI s0 30)).toInt ∧ ((zI s0 30)).toInt ≤ 9 := (h_s0).1 30
  have q2 := li_0
  exact t_Mo_areKnown_h2 N hN   gs0    N _ _ h_s0 (show (0 : Int) ≤ ((zI s0 30)).toInt ∧ ((zI s0 30)).toInt ≤ 8 from ⟨by omega, by omega⟩) (show (0 : Int) ≤ ((0 : Int32)).toInt ∧ ((0 : Int32)).toInt ≤ 64 from ⟨by omega, by omega⟩) g_s0 (show 65 - ((0 : Int32)).toInt ≤ (N : Int) from by omega)
theorem t_Mo_areKnown (N : Nat) (hN : 50000000 ≤ N) (s0 : zSt) (h_s0 : I_Mo s0) (h_s0_30 : (0 : Int) ≤ (zI s0 30).toInt ∧ (zI s0 30).toInt ≤ 8) : zok (Mo_areKnown N s0) (fun z => ((0 : Int) ≤ (z.1).toInt ∧ (z.1).toInt ≤ 1) ∧ I_Mo z.2 ∧ Fr [] [59] z.2 s0) :=
  t_Mo_areKnown_b0 N hN s0 s0 h_s0 h_s0_30 ⟨fun _ _ => rfl, fun _ _ => rfl⟩
theorem t_Mo_greatest_b29 (N : Nat) (hN : 50000000 ≤ N) (kh4 : Int32 → Int32 → Option (Int32)) (m4 : Int) (s0 : zSt) (v1 : Int32) (v3 : Int32) (t0 : Int32) (hkh4 : ∀ (v2 : Int32) (v3 : Int32), (-1 : Int) ≤ (v2).toInt ∧ (v2).toInt ≤ 11 → (0 : Int) ≤ (v3).toInt ∧ (v3).toInt ≤ 8 → 9 - (v3).toInt ≤ m4 - 1 → zok (kh4 v2 v3) (fun z => ((-1 : Int) ≤ (z).toInt ∧ (z).toInt ≤ 11))) (h_s0 : I_Mo s0) (h_s0_30 : (0 : Int) ≤ (zI s0 30).toInt ∧ (zI s0 30).toInt ≤ 8) (h_v1 : (1 : Int) ≤ (v1).toInt ∧ (v1).toInt ≤ 8) (h_v3 : (0 : Int) ≤ (v3).toInt ∧ (v3).toInt ≤ 7) (h_t0 : (0 : Int) ≤ (t0).toInt ∧ (t0).toInt ≤ 11) (hm4 : 9 - (v3).toInt ≤ m4) : zok (Mo_greatest_b29 N kh4 s0 v1 v3 t0) (fun z => ((-1 : Int) ≤ (z).toInt ∧ (z).toInt ≤ 11)) := by
  rw [Mo_greatest_b29]
  have q1 := li_1
  have q2 := tadd v3 (1 : Int32) (by omega) (by omega)
  exact hkh4 _ _ (show (-1 : Int) ≤ (t0).toInt ∧ (t0).toInt ≤ 11 from ⟨by omega, by omega⟩) (show (0 : Int) ≤ ((v3 + (1 : Int32))).toInt ∧ ((v3 + (1 : Int32))).toInt ≤ 8 from ⟨by omega, by omega⟩) (show 9 - ((v3 + (1 : Int32))).toInt ≤ m4 - 1 by omega)
theorem t_Mo_greatest_b4 (N : Nat) (hN : 50000000 ≤ N) (kh4 : Int32 → Int32 → Option (Int32)) (m4 : Int) (s0 : zSt) (v1 : Int32) (v2 : Int32) (v3 : Int32) (hkh4 : ∀ (v2 : Int32) (v3 : Int32), (-1 : Int) ≤ (v2).toInt ∧ (v2).toInt ≤ 11 → (0 : Int) ≤ (v3).toInt ∧ (v3).toInt ≤ 8 → 9 - (v3).toInt ≤ m4 - 1 → zok (kh4 v2 v3) (fun z => ((-1 : Int) ≤ (z).toInt ∧ (z).toInt ≤ 11))) (h_s0 : I_Mo s0) (h_s0_30 : (0 : Int) ≤ (zI s0 30).toInt ∧ (zI s0 30).toInt ≤ 8) (h_v1 : (0 : Int) ≤ (v1).toInt ∧ (v1).toInt ≤ 8) (h_v2 : (-1 : Int) ≤ (v2).toInt ∧ (v2).toInt ≤ 11) (h_v3 : (0 : Int) ≤ (v3).toInt ∧ (v3).toInt ≤ 8) (hm4 : 9 - (v3).toInt ≤ m4) : zok (Mo_greatest_b4 N kh4 s0 v1 v2 v3) (fun z => ((-1 : Int) ≤ (z).toInt ∧ (z).toInt ≤ 11)) := by
  rw [Mo_greatest_b4]
  refine zok_ite (fun c1 => ?_) (fun c1 => ?_)
  · have q2 : (v1).toInt ≤ (v3).toInt := tle c1
    exact zok_some (show (-1 : Int) ≤ (v2).toInt ∧ (v2).toInt ≤ 11 from ⟨by omega, by omega⟩)
  · have q3 : (v1).toInt > (v3).toInt := tnle c1
    refine zok_ck (show vp_in v3 9 from vin (by omega) (by omega)) ?_
    have q5 : (0 : Int) ≤ (((zA s0 56) (Int32.toNatClampNeg v3))).toInt ∧ (((zA s0 56) (Int32.toNatClampNeg v3))).toInt ≤ 11 := (h_s0).2 56 _
    refine zok_ite (fun c4 => ?_) (fun c4 => ?_)
    · have q6 : (((zA s0 56) (Int32.toNatClampNeg v3))).toInt ≤ (v2).toInt := tle c4
      have q7 : (0 : Int) ≤ ((zI s0 30)).toInt ∧ ((zI s0 30)).toInt ≤ 9 := (h_s0).1 30
      exact t_Mo_greatest_b29 N hN kh4 m4 _ _ _ _  hkh4 h_s0 (show (0 : Int) ≤ ((zI s0 30)).toInt ∧ ((zI s0 30)).toInt ≤ 8 from ⟨by omega, by omega⟩) (show (1 : Int) ≤ (v1).toInt ∧ (v1).toInt ≤ 8 from ⟨by omega, by omega⟩) (show (0 : Int) ≤ (v3).toInt ∧ (v3).toInt ≤ 7 from ⟨by omega, by omega⟩) (show (0 : Int) ≤ (v2).toInt ∧ (v2).toInt ≤ 11 from ⟨by omega, by omega⟩) (show 9 - (v3).toInt ≤ m4 from by omega)
    · have q8 : (((zA s0 56) (Int32.toNatClampNeg v3))).toInt > (v2).toInt := tnle c4
      refine zok_ck (show vp_in v3 9 from vin (by omega) (by omega)) ?_
      have q9 : (0 : Int) ≤ ((zI s0 30)).toInt ∧ ((zI s0 30)).toInt ≤ 9 := (h_s0).1 30
      exact t_Mo_greatest_b29 N hN kh4 m4 _ _ _ _  hkh4 h_s0 (show (0 : Int) ≤ ((zI s0 30)).toInt ∧ ((zI s0 30)).toInt ≤ 8 from ⟨by omega, by omega⟩) (show (1 : Int) ≤ (v1).toInt ∧ (v1).toInt ≤ 8 from ⟨by omega, by omega⟩) (show (0 : Int) ≤ (v3).toInt ∧ (v3).toInt ≤ 7 from ⟨by omega, by omega⟩) (show (0 : Int) ≤ (((zA s0 56) (Int32.toNatClampNeg v3))).toInt ∧ (((zA s0 56) (Int32.toNatClampNeg v3))).toInt ≤ 11 from ⟨by omega, by omega⟩) (show 9 - (v3).toInt ≤ m4 from by omega)
theorem t_Mo_greatest_h4 (N : Nat) (hN : 50000000 ≤ N) (s0 : zSt) (v1 : Int32) (h_s0 : I_Mo s0) (h_s0_30 : (0 : Int) ≤ (zI s0 30).toInt ∧ (zI s0 30).toInt ≤ 8) (h_v1 : (0 : Int) ≤ (v1).toInt ∧ (v1).toInt ≤ 8) : ∀ (n : Nat) (v2 : Int32) (v3 : Int32), (-1 : Int) ≤ (v2).toInt ∧ (v2).toInt ≤ 11 → (0 : Int) ≤ (v3).toInt ∧ (v3).toInt ≤ 8 → 9 - (v3).toInt ≤ (n : Int) → zok (Mo_greatest_h4 N s0 v1 n v2 v3) (fun z => ((-1 : Int) ≤ (z).toInt ∧ (z).toInt ≤ 11))
  | 0, v2, v3, h_v2, h_v3, hm => absurd hm (by omega)
  | n + 1, v2, v3, h_v2, h_v3, hm => by
    rw [Mo_greatest_h4_s]
    exact t_Mo_greatest_b4 N hN (Mo_greatest_h4 N s0 v1 n) ((n + 1 : Nat) : Int) s0 v1 v2 v3  (fun v2 v3 h_v2 h_v3 q => t_Mo_greatest_h4 N hN  s0 v1   h_s0 h_s0_30 h_v1   n v2 v3 h_v2 h_v3 (by omega)) h_s0 h_s0_30 h_v1 h_v2 h_v3  hm
theorem t_Mo_greatest_b0 (N : Nat) (hN : 50000000 ≤ N) (s0 : zSt) (v1 : Int32) (h_s0 : I_Mo s0) (h_s0_30 : (0 : Int) ≤ (zI s0 30).toInt ∧ (zI s0 30).toInt ≤ 8) (h_v1 : (0 : Int) ≤ (v1).toInt ∧ (v1).toInt ≤ 8) : zok (Mo_greatest_b0 N s0 v1) (fun z => ((-1 : Int) ≤ (z).toInt ∧ (z).toInt ≤ 11)) := by
  rw [Mo_greatest_b0]
  have q1 : (0 : Int) ≤ ((zI s0 30)).toInt ∧ ((zI s0 30)).toInt ≤ 9 := (h_s0).1 30
  have q2 := li_m1
  have q3 := li_0
  exact t_Mo_greatest_h4 N hN  _ _   h_s0 (show (0 : Int) ≤ ((zI s0 30)).toInt ∧ ((zI s0 30)).toInt ≤ 8 from ⟨by omega, by omega⟩) (show (0 : Int) ≤ (v1).toInt ∧ (v1).toInt ≤ 8 from ⟨by omega, by omega⟩)  N _ _ (show (-1 : Int) ≤ (((-1) : Int32)).toInt ∧ (((-1) : Int32)).toInt ≤ 11 from ⟨by omega, by omega⟩) (show (0 : Int) ≤ ((0 : Int32)).toInt ∧ ((0 : Int32)).toInt ≤ 8 from ⟨by omega, by omega⟩) (show 9 - ((0 : Int32)).toInt ≤ (N : Int) from by omega)
theorem t_Mo_greatest (N : Nat) (hN : 50000000 ≤ N) (s0 : zSt) (v1 : Int32) (h_s0 : I_Mo s0) (h_s0_30 : (0 : Int) ≤ (zI s0 30).toInt ∧ (zI s0 30).toInt ≤ 8) (h_v1 : (0 : Int) ≤ (v1).toInt ∧ (v1).toInt ≤ 8) : zok (Mo_greatest N s0 v1) (fun z => ((-1 : Int) ≤ (z).toInt ∧ (z).toInt ≤ 11)) :=
  t_Mo_greatest_b0 N hN s0 v1  h_s0 h_s0_30 h_v1 
theorem great_ok {N : Nat} {s : zSt} {t : Nat → Nat} {p : Nat} (hp : p ≤ 9) (ht : ∀ i, i < p → zA s 56 i = nI (t i) ∧ t i ≤ i) : ∀ (k i : Nat) (v : Int32), i ≤ p → p - i < k → v.toInt ≤ (i : Int) - 1 → zok (Mo_greatest_h4 N s (nI p) k v (nI i)) (fun z => z.toInt ≤ (p : Int) - 1) := by
  intro k
  induction k with
  | zero => intro i v _ h; exact absurd h (by omega)
  | succ k ih =>
    intro i v hi hk hv
    rw [Mo_greatest_h4_s]
    unfold Mo_greatest_b4
    by_cases e : i = p
    · subst e
      rw [if_pos ((nI_leI (by omega) (by omega)).mpr (Nat.le_refl i))]
      exact zok_some hv
    · obtain ⟨e1, l1⟩ := ht i (by omega)
      rw [if_neg (fun q => absurd ((nI_leI (by omega) (by omega)).mp q) (by omega)), nI_clamp (by omega), e1]
      have e2 := nI_toInt (n := t i) (by omega)
      refine zok_ck (vp_in_nI (by omega) (by decide)) ?_
      unfold Mo_greatest_b29
      rw [nI_1]
      refine zok_ite (fun _ => ih (i + 1) v (by omega) (by omega) (by omega)) (fun _ => ?_)
      exact zok_ck (vp_in_nI (by omega) (by decide)) (ih (i + 1) _ (by omega) (by omega) (by omega))
theorem great_le {N : Nat} (hN : 50000000 ≤ N) {s : zSt} {t : Nat → Nat} {p : Nat} (hp : p ≤ 9) (ht : ∀ i, i < p → zA s 56 i = nI (t i) ∧ t i ≤ i) : zok (Mo_greatest N s (nI p)) (fun z => z.toInt ≤ (p : Int) - 1) := by
  unfold Mo_greatest Mo_greatest_b0
  exact great_ok hp ht N 0 (-1) (by omega) (by omega) (by decide)
theorem nTones_ok {N : Nat} (hN : 50000000 ≤ N) (g : zSt) : ∀ (p k : Nat) (s : zSt) (t : Nat → Nat), p ≤ 8 → p < k → I_Mo s → Fr [] [56] s g → (∀ i, i < p → zA s 56 i = nI (t i) ∧ t i ≤ i) → zok (Mo_nextTones_h7 N k s (nI p - 1)) (fun z => I_Mo z.2 ∧ Fr [] [56] z.2 g ∧ (z.1 = 0 ∨ (z.1 = 1 ∧ ∃ j, j < p ∧ t j + 1 ≤ j ∧ ∀ i, zA z.2 56 i = if i = j then nI (t j + 1) else if j < i ∧ i < p then 0 else zA s 56 i))) := by
  have e0 : (0 : Int32).toInt = 0 := by decide
  intro p
  induction p with
  | zero =>
    intro k s t _ hk hs hf _
    obtain ⟨k', rfl⟩ : ∃ k', k = k' + 1 := ⟨k - 1, by omega⟩
    rw [Mo_nextTones_h7_s]
    unfold Mo_nextTones_b7
    rw [if_pos (by decide)]
    exact zok_some ⟨hs, hf, Or.inl rfl⟩
  | succ p ih =>
    intro k s t hp hk hs hf ht
    obtain ⟨k', rfl⟩ : ∃ k', k = k' + 1 := ⟨k - 1, by omega⟩
    obtain ⟨e, l⟩ := ht p (by omega)
    have et := nI_toInt (n := t p) (by omega)
    have et1 := nI_toInt (n := t p + 1) (by omega)
    rw [Mo_nextTones_h7_s, nI_p1 p (by omega)]
    unfold Mo_nextTones_b7
    refine zok_ite (fun _ => zok_some ⟨hs, hf, Or.inl rfl⟩) (fun q0 => ?_)
    have hp0 : 0 < p := by
      rcases Nat.eq_zero_or_pos p with h | h
      · subst h; exact absurd (by decide) q0
      · exact h
    rw [nI_clamp (by omega), e]
    refine zok_ck (vp_in_nI (by omega) (by decide)) ?_
    refine zok_bind (great_le hN (by omega) (fun i hi => ht i (by omega))) (fun z3 hz3 => ?_)
    refine zok_ite (fun _ => ?_) (fun q => ?_)
    · refine zok_ck (vp_in_nI (by omega) (by decide)) ?_
      rw [nI_m1]
      have hI : I_Mo (zsA s 56 (upd (zA s 56) p 0)) := IS.sA 56 _ hs (show ∀ i, (0 : Int) ≤ (upd (zA s 56) p 0 i).toInt ∧ (upd (zA s 56) p 0 i).toInt ≤ 11 from rgu (fun i => hs.2 56 i) ⟨by omega, by omega⟩)
      refine zok_mono (ih k' (zsA s 56 (upd (zA s 56) p 0)) t (by omega) (by omega) hI (Fr.sA hf rfl) (fun i hi => ?_)) (fun z hz => ?_)
      · obtain ⟨e1, l1⟩ := ht i (by omega)
        refine ⟨?_, l1⟩
        rw [zA_sA, if_pos rfl]
        unfold upd
        rw [if_neg (by omega)]
        exact e1
      · refine ⟨hz.1, hz.2.1, ?_⟩
        rcases hz.2.2 with hz | ⟨hz, j, h1, h2, h3⟩
        · exact Or.inl hz
        · refine Or.inr ⟨hz, j, by omega, h2, fun i => ?_⟩
          rw [h3 i, zA_sA, if_pos rfl]
          unfold upd
          by_cases a : i = j
          · rw [if_pos a, if_pos a]
          · rw [if_neg a, if_neg a]
            by_cases b : j < i ∧ i < p
            · rw [if_pos b, if_pos (by omega)]
            · rw [if_neg b]
              by_cases c : i = p
              · rw [if_pos c, if_pos (by omega)]
              · rw [if_neg c, if_neg (by omega)]
    · have q := tnlt q
      refine zok_ck (vp_in_nI (by omega) (by decide)) (zok_ck (vp_in_nI (by omega) (by decide)) ?_)
      rw [nI_1]
      have hI : I_Mo (zsA s 56 (upd (zA s 56) p (nI (t p + 1)))) := IS.sA 56 _ hs (show ∀ i, (0 : Int) ≤ (upd (zA s 56) p (nI (t p + 1)) i).toInt ∧ (upd (zA s 56) p (nI (t p + 1)) i).toInt ≤ 11 from rgu (fun i => hs.2 56 i) ⟨by omega, by omega⟩)
      refine zok_some ⟨hI, Fr.sA hf rfl, Or.inr ⟨rfl, p, by omega, by omega, fun i => ?_⟩⟩
      rw [zA_sA, if_pos rfl]
      unfold upd
      by_cases a : i = p
      · rw [if_pos a, if_pos a]
      · rw [if_neg a, if_neg a, if_neg (by omega)]
theorem nTones_next {N : Nat} (hN : 50000000 ≤ N) {m : Nat} (hm : m ≤ 8) {s : zSt} {t : Nat → Nat} (hs : I_Mo s) (h30 : zI s 30 = nI m) (ht : Dg s m t (fun i => i)) :
    zok (Mo_nextTones N s) (fun z => (I_Mo z.2 ∧ Fr [] [56] z.2 s) ∧ (z.1 = 0 ∨ (z.1 = 1 ∧ ∃ g, Dg z.2 m g (fun i => i) ∧ vl 9 t m + 1 ≤ vl 9 g m))) := by
  unfold Mo_nextTones Mo_nextTones_b0
  rw [h30]
  refine zok_mono (nTones_ok hN s m N s t hm (by omega) hs Fr.rf ht) (fun z hz => ⟨⟨hz.1, hz.2.1⟩, ?_⟩)
  rcases hz.2.2 with hz | ⟨hz, j, h1, h2, h3⟩
  · exact Or.inl hz
  · refine Or.inr ⟨hz, fun i => if i = j then t j + 1 else if j < i then 0 else t i, fun i hi => ?_, vl_up m h1 (fun i hi => ?_) ?_ (fun i hi => ?_)⟩
    · show zA z.2 56 i = nI (if i = j then t j + 1 else if j < i then 0 else t i) ∧ (if i = j then t j + 1 else if j < i then 0 else t i) ≤ i
      rw [h3 i]
      by_cases a : i = j
      · rw [if_pos a, if_pos a]; exact ⟨rfl, by omega⟩
      · rw [if_neg a, if_neg a]
        by_cases b : j < i
        · rw [if_pos (And.intro b hi), if_pos b]; exact ⟨rfl, by omega⟩
        · rw [if_neg (by omega), if_neg b]; exact ht i hi
    · show (if i = j then t j + 1 else if j < i then 0 else t i) = t i
      rw [if_neg (by omega), if_neg (by omega)]
    · show (if j = j then t j + 1 else if j < j then 0 else t j) = t j + 1
      rw [if_pos rfl]
    · have : t i ≤ i := (ht i hi).2; omega
theorem dl_loop {N : Nat} (hN : 50000000 ≤ N) {m : Nat} (hm : m ≤ 8) (g : zSt) : ∀ (n : Nat) (s : zSt) (v2 v3 : Int32) (t : Nat → Nat), I_Mo s → Fr [58, 61] [56, 57, 59, 60] s g → zI s 30 = nI m → Dg s m t (fun i => i) → (-2 : Int) ≤ v2.toInt ∧ v2.toInt ≤ 12 → (v3 = 0 ∧ 1 ≤ n ∨ 9 ^ m + 1 ≤ n + vl 9 t m) → zok (Mo_dealt_h41 N n s v2 v3) (fun z => ((-2 : Int) ≤ (z.1).toInt ∧ (z.1).toInt ≤ 12) ∧ I_Mo z.2 ∧ Fr [58, 61] [56, 57, 59, 60] z.2 g) := by
  have e1 : (1 : Int32).toInt = 1 := by decide
  intro n
  induction n with
  | zero =>
    intro s v2 v3 t hs hf h30 ht _ hn
    have := vl_lt (B := 9) (f := t) m (fun i hi => by have : t i ≤ i := (ht i hi).2; omega)
    exact absurd hn (by omega)
  | succ n ih =>
    intro s v2 v3 t hs hf h30 ht hv2 hn
    have hv := vl_lt (B := 9) (f := t) m (fun i hi => by have : t i ≤ i := (ht i hi).2; omega)
    have h3 := nI_toInt (n := m) (by omega)
    have h8 : (0 : Int) ≤ (zI s 30).toInt ∧ (zI s 30).toInt ≤ 8 := by rw [h30]; omega
    have b81 : ∀ (s : zSt) (v2 : Int32), ¬ v3 = 0 → I_Mo s → Fr [58, 61] [56, 57, 59, 60] s g → zI s 30 = nI m → Dg s m t (fun i => i) → (-2 : Int) ≤ v2.toInt ∧ v2.toInt ≤ 12 → zok (Mo_dealt_b81 N (Mo_dealt_h41 N n) s v2) (fun z => ((-2 : Int) ≤ (z.1).toInt ∧ (z.1).toInt ≤ 12) ∧ I_Mo z.2 ∧ Fr [58, 61] [56, 57, 59, 60] z.2 g) := by
      intro s v2 h0 hs hf h30 ht hv2
      unfold Mo_dealt_b81
      refine zok_bind (nTones_next hN hm hs h30 ht) (fun z1 hz => ?_)
      obtain ⟨⟨z2, z3⟩, z4⟩ := hz
      have hI : I_Mo (zmg [17, 21, 57, 59, 60] z1.2 s) := IS.mg _ z2 hs
      have hF : Fr [58, 61] [56, 57, 59, 60] (zmg [17, 21, 57, 59, 60] z1.2 s) g := Fr.mg (Fr.tr z3 hf rfl rfl) hf
      have h3' : zI (zmg [17, 21, 57, 59, 60] z1.2 s) 30 = nI m := by show zI z1.2 30 = _; rw [z3.1 30 rfl]; exact h30
      rcases z4 with z4 | ⟨z4, q, q1, q2⟩
      · rw [z4]
        obtain ⟨n', rfl⟩ : ∃ n', n = n' + 1 := ⟨n - 1, by rcases hn with hn | hn <;> first | exact absurd hn.1 h0 | omega⟩
        rw [Mo_dealt_h41_s]
        unfold Mo_dealt_b41
        rw [if_pos rfl]
        exact zok_some ⟨hv2, hI, hF⟩
      · rw [z4]
        refine ih _ v2 1 q hI hF h3' (fun i hi => q1 i hi) hv2 (Or.inr ?_)
        rcases hn with hn | hn
        · exact absurd hn.1 h0
        · omega
    have b67 : ∀ v4 : Int32, ¬ v3 = 0 → (-2 : Int) ≤ v4.toInt ∧ v4.toInt ≤ 12 → zok (Mo_dealt_b67 N (Mo_dealt_h41 N n) s v2 v4) (fun z => ((-2 : Int) ≤ (z.1).toInt ∧ (z.1).toInt ≤ 12) ∧ I_Mo z.2 ∧ Fr [58, 61] [56, 57, 59, 60] z.2 g) := by
      intro v4 h0 hv4
      unfold Mo_dealt_b67
      refine zok_bind (t_Mo_areKnown N hN s hs h8) (fun z1 hz => ?_)
      obtain ⟨_, z2, z3⟩ := hz
      have hI : I_Mo (zmg [57] z1.2 s) := IS.mg _ z2 hs
      have hF : Fr [58, 61] [56, 57, 59, 60] (zmg [57] z1.2 s) g := Fr.mg (Fr.tr z3 hf rfl rfl) hf
      have h3' : zI (zmg [57] z1.2 s) 30 = nI m := by show zI z1.2 30 = _; rw [z3.1 30 rfl]; exact h30
      have hD : Dg (zmg [57] z1.2 s) m t (fun i => i) := fun i hi => by rw [zA_mg, if_neg (by decide), z3.2 56 rfl]; exact ht i hi
      refine zok_ite (fun _ => b81 _ v2 h0 hI hF h3' hD hv2) (fun _ => ?_)
      refine zok_bind (t_Mo_putDown N hN _ hI (by rw [h3']; omega)) (fun z4 hz => ?_)
      refine b81 _ v4 h0 (IS.mg _ hz.1 hI) (Fr.mg (Fr.tr hz.2 hF rfl rfl) hF) ?_ (fun i hi => ?_) hv4
      · show zI z4 30 = _; rw [hz.2.1 30 rfl]; exact h3'
      · rw [zA_mg, if_neg (by decide), hz.2.2 56 rfl]; exact hD i hi
    rw [Mo_dealt_h41_s]
    unfold Mo_dealt_b41
    refine zok_ite (fun _ => zok_some ⟨hv2, hs, hf⟩) (fun h0 => ?_)
    refine zok_bind (t_Mo_greatest N hN s (zI s 30) hs h8 h8) (fun z2 hz2 => ?_)
    have ha := tadd z2 1 (by omega) (by omega)
    refine zok_ite (fun _ => b67 _ h0 (by omega)) (fun _ => ?_)
    exact zok_ite (fun _ => b81 s v2 h0 hs hf h30 ht hv2) (fun _ => b67 _ h0 (by omega))
theorem pow9_8 {m : Nat} (hm : m ≤ 8) : 9 ^ m ≤ 43046721 := Nat.le_trans (Nat.pow_le_pow_right (by decide) hm) (by decide)
theorem t_Mo_dealt (N : Nat) (hN : 50000000 ≤ N) (s0 : zSt) (v1 : Int32) (h_s0 : I_Mo s0) : zok (Mo_dealt N s0 v1) (fun z => ((-2 : Int) ≤ (z.1).toInt ∧ (z.1).toInt ≤ 12) ∧ I_Mo z.2 ∧ Fr [58, 61] [56, 57, 59, 60] z.2 s0) := by
  have e0 : (0 : Int32).toInt = 0 := by decide
  have e1 : (1 : Int32).toInt = 1 := by decide
  have e2 : (2 : Int32).toInt = 2 := by decide
  have e8 : (8 : Int32).toInt = 8 := by decide
  have em1 : ((-1) : Int32).toInt = -1 := by decide
  have em2 : ((-2) : Int32).toInt = -2 := by decide
  have hz : I_Mo (zpI s0 58 0) := IS.pI 58 0 h_s0 (show (0 : Int) ≤ (0 : Int32).toInt ∧ (0 : Int32).toInt ≤ 9 by omega)
  have hzf : Fr [58, 61] [56, 57, 59, 60] (zpI s0 58 0) s0 := Fr.pI Fr.rf rfl
  have h30 : (0 : Int) ≤ (zI s0 30).toInt ∧ (zI s0 30).toInt ≤ 9 := h_s0.1 30
  unfold Mo_dealt Mo_dealt_b0
  rcases u_Mo_isIn N v1 1 2 with w | ⟨w, w0, w1⟩ <;> rw [w, zbs]
  · exact zok_t rfl (zok_some ⟨show (-2 : Int) ≤ ((-1) : Int32).toInt ∧ ((-1) : Int32).toInt ≤ 12 by omega, hz, hzf⟩)
  · refine zok_f (by decide) ?_
    refine zok_ite (fun q => ?_) (fun _ => zok_some ⟨show (-2 : Int) ≤ ((-2) : Int32).toInt ∧ ((-2) : Int32).toInt ≤ 12 by omega, hz, hzf⟩)
    have q := tle q
    obtain ⟨m, em, lm, _⟩ := i_nat h30.1 (show (zI s0 30).toInt ≤ 8 by omega)
    refine zok_bind (clear_ok hN hz (show (0 : Int) ≤ (zI s0 30).toInt ∧ (zI s0 30).toInt ≤ 8 by omega)) (fun z2 hz2 => ?_)
    obtain ⟨⟨a1, a2⟩, a3⟩ := hz2
    have hp := pow9_8 (m := m) (by omega)
    have hI : I_Mo (zmg [17, 21, 57, 59, 60] z2 (zpI s0 58 0)) := IS.mg _ a1 hz
    have hF : Fr [58, 61] [56, 57, 59, 60] (zmg [17, 21, 57, 59, 60] z2 (zpI s0 58 0)) s0 := Fr.mg (Fr.tr a2 hzf rfl rfl) hzf
    have h3' : zI (zmg [17, 21, 57, 59, 60] z2 (zpI s0 58 0)) 30 = nI m := by show zI z2 30 = _; rw [a2.1 30 rfl]; exact em
    have h58 : zI (zmg [17, 21, 57, 59, 60] z2 (zpI s0 58 0)) 58 = 0 := by show zI z2 58 = _; rw [a2.1 58 rfl]; rfl
    refine zok_bind (t_Mo_layFew N hN _ v1 hI (by rw [h3', nI_toInt (by omega)]; omega) (by rw [h58]; omega) (by omega)) (fun z7 hz7 => ?_)
    refine dl_loop hN (m := m) (by omega) s0 N _ (-1) 1 (fun _ => 0) (IS.mg _ hz7.1 hI) (Fr.mg (Fr.tr hz7.2 hF rfl rfl) hF) ?_ (fun i hi => ?_) (by omega) (Or.inr (by omega))
    · show zI z7 30 = _; rw [hz7.2.1 30 rfl]; exact h3'
    · rw [zA_mg, if_pos (by decide), zA_mg, if_neg (by decide), a3 i (by omega)]; exact ⟨rfl, Nat.zero_le _⟩
